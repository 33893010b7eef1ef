/-! ===== the rows of sets stay as they are ===== -/
def Kp (g σ : SS) : Prop := σ 69 = g 69 ∧ σ 70 = g 70
def KP (g : SS) (o : Option (Int32 × SS)) : Prop := ∀ r σ2, o = some (r, σ2) → Kp g σ2
theorem KP_none (g : SS) : KP g none := fun r σ2 h => by cases h
theorem KP_some {g σ : SS} {r : Int32} (h : Kp g σ) : KP g (some (r, σ)) := fun r' σ2 e => by
  have e2 := Option.some.inj e
  have e3 : σ = σ2 := congrArg Prod.snd e2
  rw [← e3]
  exact h
theorem KP_cr {g : SS} {o : Option Int32} {k : Int32 → Option (Int32 × SS)} (h : ∀ x, KP g (k x)) : KP g (q_cr o k) := by
  cases o with
  | none => exact KP_none g
  | some x => exact h x
theorem KP_rd {g : SS} {f : Nat → Int32} {n : Nat} {i : Int32} {k : Int32 → Option (Int32 × SS)} (h : ∀ x, KP g (k x)) : KP g (q_rd f n i k) := by
  unfold q_rd
  split
  · exact h _
  · exact KP_none g
theorem KP_zz {g : SS} {v : Int32} {k : Option (Int32 × SS)} (h : KP g k) : KP g (q_zz v k) := by
  unfold q_zz
  split
  · exact h
  · exact KP_none g
theorem KP_ite {g : SS} {c : Prop} [Decidable c] {a b : Option (Int32 × SS)} (ha : KP g a) (hb : KP g b) : KP g (if c then a else b) := by
  split
  · exact ha
  · exact hb
theorem KP_lt {α : Type} {g : SS} {x : α} {k : α → Option (Int32 × SS)} (h : KP g (k x)) : KP g (q_lt x k) := h
theorem KP_wr {g σ : SS} {c n : Nat} {i v : Int32} {k : SS → Option (Int32 × SS)} (h : ∀ j, KP g (k (su σ c j v))) : KP g (q_wr σ c n i v k) := by
  unfold q_wr
  split
  · exact h _
  · exact KP_none g
theorem KP_ac {g σ : SS} {c0 n0 c1 n1 : Nat} {sp dp n : Int32} {k : SS → Option (Int32 × SS)} (h : ∀ f, KP g (k (q_sc σ c1 f))) : KP g (q_ac σ c0 n0 c1 n1 sp dp n k) := by
  unfold q_ac
  split
  · exact h _
  · exact KP_none g
theorem KP_ci {g : SS} {o : Option (Int32 × SS)} {emb : SS → SS} {k : Int32 → SS → Option (Int32 × SS)} (h : ∀ x τ, KP g (k x (emb τ))) : KP g (q_ci o emb k) := by
  cases o with
  | none => exact KP_none g
  | some x => exact h x.1 x.2
theorem KP_cs {g : SS} {o : Option SS} {emb : SS → SS} {k : SS → Option (Int32 × SS)} (h : ∀ τ, KP g (k (emb τ))) : KP g (q_cs o emb k) := by
  cases o with
  | none => exact KP_none g
  | some x => exact h x
theorem KP_tell {g σ : SS} {c : Int32} {k : Int32 → SS → Option (Int32 × SS)} (h : Kp g σ) (hk : ∀ x τ, Kp g τ → KP g (k x τ)) : KP g (q_ci (pX11_tell σ c) (fun (τ : SS) => τ) k) := by
  unfold pX11_tell q_rd q_wr
  by_cases c0 : 0 ≤ ((-1000001 : Int32) - c).toInt ∧ ((-1000001 : Int32) - c).toInt < ((7 : Nat) : Int)
  · rw [if_pos c0]
    show KP g (q_ci (if 0 ≤ ((-1000001 : Int32) - c).toInt ∧ ((-1000001 : Int32) - c).toInt < ((7 : Nat) : Int) then _ else none) (fun (τ : SS) => τ) k)
    rw [if_pos c0]
    exact hk _ _ h
  · rw [if_neg c0]
    exact KP_none g
theorem KP_orn {g σ : SS} {c : Int32} {k : Int32 → SS → Option (Int32 × SS)} (h : Kp g σ) (hk : ∀ x τ, Kp g τ → KP g (k x τ)) : KP g (q_ci (pX11_orNone σ c) (fun (τ : SS) => τ) k) := by
  rw [orNone_eq, ci_s]
  split
  · exact hk _ _ h
  · exact hk _ _ h
theorem KP_lp {T : Type} {bot : T} {st : T → T} (Q : T → Prop) (h0 : Q bot) (hs : ∀ f, Q f → Q (st f)) : ∀ n, Q (q_lp bot st n)
  | 0 => h0
  | n + 1 => hs _ (KP_lp Q h0 hs n)
set_option maxHeartbeats 8000000 in
theorem F_water (σ : SS) (a1 a2 a3 : Int32) : KP σ (pX11_water σ a1 a2 a3) := by
  unfold pX11_water
  repeat' (first | exact KP_none _ | with_reducible refine KP_tell ?_ (fun x τ hτ => ?_) | with_reducible refine KP_orn ?_ (fun x τ hτ => ?_) | with_reducible refine KP_lt ?_ | with_reducible refine KP_ite ?_ ?_ | with_reducible refine KP_cr (fun _ => ?_) | with_reducible refine KP_rd (fun _ => ?_) | with_reducible refine KP_zz ?_ | with_reducible refine KP_wr (fun _ => ?_) | with_reducible refine KP_ac (fun _ => ?_) | with_reducible refine KP_ci (fun _ _ => ?_) | with_reducible refine KP_cs (fun _ => ?_) | exact KP_some ⟨rfl, rfl⟩ | exact KP_some (by assumption) | exact ⟨rfl, rfl⟩ | assumption)
set_option maxHeartbeats 8000000 in
theorem F_waterOf (σ : SS) (a1 a2 : Int32) : KP σ (pX11_waterOf σ a1 a2) := by
  unfold pX11_waterOf
  repeat' (first | exact KP_none _ | with_reducible refine KP_tell ?_ (fun x τ hτ => ?_) | with_reducible refine KP_orn ?_ (fun x τ hτ => ?_) | with_reducible refine KP_lt ?_ | with_reducible refine KP_ite ?_ ?_ | with_reducible refine KP_cr (fun _ => ?_) | with_reducible refine KP_rd (fun _ => ?_) | with_reducible refine KP_zz ?_ | with_reducible refine KP_wr (fun _ => ?_) | with_reducible refine KP_ac (fun _ => ?_) | with_reducible refine KP_ci (fun _ _ => ?_) | with_reducible refine KP_cs (fun _ => ?_) | exact KP_some ⟨rfl, rfl⟩ | exact KP_some (by assumption) | exact ⟨rfl, rfl⟩ | assumption)
set_option maxHeartbeats 8000000 in
theorem F_change (σ : SS) (a1 a2 a3 : Int32) : KP σ (pX11_change σ a1 a2 a3) := by
  unfold pX11_change
  repeat' (first | exact KP_none _ | with_reducible refine KP_tell ?_ (fun x τ hτ => ?_) | with_reducible refine KP_orn ?_ (fun x τ hτ => ?_) | with_reducible refine KP_lt ?_ | with_reducible refine KP_ite ?_ ?_ | with_reducible refine KP_cr (fun _ => ?_) | with_reducible refine KP_rd (fun _ => ?_) | with_reducible refine KP_zz ?_ | with_reducible refine KP_wr (fun _ => ?_) | with_reducible refine KP_ac (fun _ => ?_) | with_reducible refine KP_ci (fun _ _ => ?_) | with_reducible refine KP_cs (fun _ => ?_) | exact KP_some ⟨rfl, rfl⟩ | exact KP_some (by assumption) | exact ⟨rfl, rfl⟩ | assumption)
set_option maxHeartbeats 8000000 in
theorem F_set (σ : SS) (a1 a2 : Int32) : KP σ (pX11_set σ a1 a2) := by
  unfold pX11_set
  repeat' (first | exact KP_none _ | with_reducible refine KP_tell ?_ (fun x τ hτ => ?_) | with_reducible refine KP_orn ?_ (fun x τ hτ => ?_) | with_reducible refine KP_lt ?_ | with_reducible refine KP_ite ?_ ?_ | with_reducible refine KP_cr (fun _ => ?_) | with_reducible refine KP_rd (fun _ => ?_) | with_reducible refine KP_zz ?_ | with_reducible refine KP_wr (fun _ => ?_) | with_reducible refine KP_ac (fun _ => ?_) | with_reducible refine KP_ci (fun _ _ => ?_) | with_reducible refine KP_cs (fun _ => ?_) | exact KP_some ⟨rfl, rfl⟩ | exact KP_some (by assumption) | exact ⟨rfl, rfl⟩ | assumption)
set_option maxHeartbeats 8000000 in
theorem F_current (σ : SS) (a1 : Int32) : KP σ (pX11_current σ a1) := by
  unfold pX11_current
  repeat' (first | exact KP_none _ | with_reducible refine KP_tell ?_ (fun x τ hτ => ?_) | with_reducible refine KP_orn ?_ (fun x τ hτ => ?_) | with_reducible refine KP_lt ?_ | with_reducible refine KP_ite ?_ ?_ | with_reducible refine KP_cr (fun _ => ?_) | with_reducible refine KP_rd (fun _ => ?_) | with_reducible refine KP_zz ?_ | with_reducible refine KP_wr (fun _ => ?_) | with_reducible refine KP_ac (fun _ => ?_) | with_reducible refine KP_ci (fun _ _ => ?_) | with_reducible refine KP_cs (fun _ => ?_) | exact KP_some ⟨rfl, rfl⟩ | exact KP_some (by assumption) | exact ⟨rfl, rfl⟩ | assumption)
set_option maxHeartbeats 8000000 in
theorem F_flap (σ : SS) (a1 : Int32) : KP σ (pX11_flap σ a1) := by
  unfold pX11_flap
  repeat' (first | exact KP_none _ | with_reducible refine KP_tell ?_ (fun x τ hτ => ?_) | with_reducible refine KP_orn ?_ (fun x τ hτ => ?_) | with_reducible refine KP_lt ?_ | with_reducible refine KP_ite ?_ ?_ | with_reducible refine KP_cr (fun _ => ?_) | with_reducible refine KP_rd (fun _ => ?_) | with_reducible refine KP_zz ?_ | with_reducible refine KP_wr (fun _ => ?_) | with_reducible refine KP_ac (fun _ => ?_) | with_reducible refine KP_ci (fun _ _ => ?_) | with_reducible refine KP_cs (fun _ => ?_) | exact KP_some ⟨rfl, rfl⟩ | exact KP_some (by assumption) | exact ⟨rfl, rfl⟩ | assumption)
set_option maxHeartbeats 8000000 in
theorem F_minutes (σ : SS) (a1 : Int32) : KP σ (pX11_minutes σ a1) := by
  unfold pX11_minutes
  repeat' (first | exact KP_none _ | with_reducible refine KP_tell ?_ (fun x τ hτ => ?_) | with_reducible refine KP_orn ?_ (fun x τ hτ => ?_) | with_reducible refine KP_lt ?_ | with_reducible refine KP_ite ?_ ?_ | with_reducible refine KP_cr (fun _ => ?_) | with_reducible refine KP_rd (fun _ => ?_) | with_reducible refine KP_zz ?_ | with_reducible refine KP_wr (fun _ => ?_) | with_reducible refine KP_ac (fun _ => ?_) | with_reducible refine KP_ci (fun _ _ => ?_) | with_reducible refine KP_cs (fun _ => ?_) | exact KP_some ⟨rfl, rfl⟩ | exact KP_some (by assumption) | exact ⟨rfl, rfl⟩ | assumption)
set_option maxHeartbeats 8000000 in
theorem F_now (σ : SS) (a1 : Int32) : KP σ (pX11_now σ a1) := by
  unfold pX11_now
  repeat' (first | exact KP_none _ | with_reducible refine KP_tell ?_ (fun x τ hτ => ?_) | with_reducible refine KP_orn ?_ (fun x τ hτ => ?_) | with_reducible refine KP_lt ?_ | with_reducible refine KP_ite ?_ ?_ | with_reducible refine KP_cr (fun _ => ?_) | with_reducible refine KP_rd (fun _ => ?_) | with_reducible refine KP_zz ?_ | with_reducible refine KP_wr (fun _ => ?_) | with_reducible refine KP_ac (fun _ => ?_) | with_reducible refine KP_ci (fun _ _ => ?_) | with_reducible refine KP_cs (fun _ => ?_) | exact KP_some ⟨rfl, rfl⟩ | exact KP_some (by assumption) | exact ⟨rfl, rfl⟩ | assumption)
set_option maxHeartbeats 8000000 in
theorem F_renew (σ : SS) : KP σ (pX11_renew σ) := by
  unfold pX11_renew
  repeat' (first | exact KP_none _ | with_reducible refine KP_tell ?_ (fun x τ hτ => ?_) | with_reducible refine KP_orn ?_ (fun x τ hτ => ?_) | with_reducible refine KP_lt ?_ | with_reducible refine KP_ite ?_ ?_ | with_reducible refine KP_cr (fun _ => ?_) | with_reducible refine KP_rd (fun _ => ?_) | with_reducible refine KP_zz ?_ | with_reducible refine KP_wr (fun _ => ?_) | with_reducible refine KP_ac (fun _ => ?_) | with_reducible refine KP_ci (fun _ _ => ?_) | with_reducible refine KP_cs (fun _ => ?_) | exact KP_some ⟨rfl, rfl⟩ | exact KP_some (by assumption) | exact ⟨rfl, rfl⟩ | assumption)
set_option maxHeartbeats 8000000 in
theorem F_start (σ : SS) (a1 : Int32) : KP σ (pX11_start σ a1) := by
  unfold pX11_start
  repeat' (first | exact KP_none _ | with_reducible refine KP_tell ?_ (fun x τ hτ => ?_) | with_reducible refine KP_orn ?_ (fun x τ hτ => ?_) | with_reducible refine KP_lt ?_ | with_reducible refine KP_ite ?_ ?_ | with_reducible refine KP_cr (fun _ => ?_) | with_reducible refine KP_rd (fun _ => ?_) | with_reducible refine KP_zz ?_ | with_reducible refine KP_wr (fun _ => ?_) | with_reducible refine KP_ac (fun _ => ?_) | with_reducible refine KP_ci (fun _ _ => ?_) | with_reducible refine KP_cs (fun _ => ?_) | exact KP_some ⟨rfl, rfl⟩ | exact KP_some (by assumption) | exact ⟨rfl, rfl⟩ | assumption)
set_option maxHeartbeats 8000000 in
theorem F_quickest (σ : SS) : KP σ (pX11_quickest σ) := by
  unfold pX11_quickest
  repeat' (first | exact KP_none _ | with_reducible refine KP_tell ?_ (fun x τ hτ => ?_) | with_reducible refine KP_orn ?_ (fun x τ hτ => ?_) | with_reducible refine KP_lt ?_ | with_reducible refine KP_ite ?_ ?_ | with_reducible refine KP_cr (fun _ => ?_) | with_reducible refine KP_rd (fun _ => ?_) | with_reducible refine KP_zz ?_ | with_reducible refine KP_wr (fun _ => ?_) | with_reducible refine KP_ac (fun _ => ?_) | with_reducible refine KP_ci (fun _ _ => ?_) | with_reducible refine KP_cs (fun _ => ?_) | exact KP_some ⟨rfl, rfl⟩ | exact KP_some (by assumption) | exact ⟨rfl, rfl⟩ | assumption)
set_option maxHeartbeats 8000000 in
theorem F_came (σ : SS) : KP σ (pX11_came σ) := by
  unfold pX11_came
  repeat' (first | exact KP_none _ | with_reducible refine KP_tell ?_ (fun x τ hτ => ?_) | with_reducible refine KP_orn ?_ (fun x τ hτ => ?_) | with_reducible refine KP_lt ?_ | with_reducible refine KP_ite ?_ ?_ | with_reducible refine KP_cr (fun _ => ?_) | with_reducible refine KP_rd (fun _ => ?_) | with_reducible refine KP_zz ?_ | with_reducible refine KP_wr (fun _ => ?_) | with_reducible refine KP_ac (fun _ => ?_) | with_reducible refine KP_ci (fun _ _ => ?_) | with_reducible refine KP_cs (fun _ => ?_) | exact KP_some ⟨rfl, rfl⟩ | exact KP_some (by assumption) | exact ⟨rfl, rfl⟩ | assumption)
set_option maxHeartbeats 8000000 in
theorem F_thing (σ : SS) (a1 a2 a3 : Int32) : KP σ (pX11_thing σ a1 a2 a3) := by
  unfold pX11_thing
  repeat' (first | exact KP_none _ | with_reducible refine KP_tell ?_ (fun x τ hτ => ?_) | with_reducible refine KP_orn ?_ (fun x τ hτ => ?_) | with_reducible refine KP_lt ?_ | with_reducible refine KP_ite ?_ ?_ | with_reducible refine KP_cr (fun _ => ?_) | with_reducible refine KP_rd (fun _ => ?_) | with_reducible refine KP_zz ?_ | with_reducible refine KP_wr (fun _ => ?_) | with_reducible refine KP_ac (fun _ => ?_) | with_reducible refine KP_ci (fun _ _ => ?_) | with_reducible refine KP_cs (fun _ => ?_) | exact KP_some ⟨rfl, rfl⟩ | exact KP_some (by assumption) | exact ⟨rfl, rfl⟩ | assumption)
set_option maxHeartbeats 8000000 in
theorem F_thingOf (σ : SS) (a1 a2 : Int32) : KP σ (pX11_thingOf σ a1 a2) := by
  unfold pX11_thingOf
  repeat' (first | exact KP_none _ | with_reducible refine KP_tell ?_ (fun x τ hτ => ?_) | with_reducible refine KP_orn ?_ (fun x τ hτ => ?_) | with_reducible refine KP_lt ?_ | with_reducible refine KP_ite ?_ ?_ | with_reducible refine KP_cr (fun _ => ?_) | with_reducible refine KP_rd (fun _ => ?_) | with_reducible refine KP_zz ?_ | with_reducible refine KP_wr (fun _ => ?_) | with_reducible refine KP_ac (fun _ => ?_) | with_reducible refine KP_ci (fun _ _ => ?_) | with_reducible refine KP_cs (fun _ => ?_) | exact KP_some ⟨rfl, rfl⟩ | exact KP_some (by assumption) | exact ⟨rfl, rfl⟩ | assumption)
set_option maxHeartbeats 8000000 in
theorem F_lift (σ : SS) (a1 : Int32) : KP σ (pX11_lift σ a1) := by
  unfold pX11_lift
  repeat' (first | exact KP_none _ | with_reducible refine KP_tell ?_ (fun x τ hτ => ?_) | with_reducible refine KP_orn ?_ (fun x τ hτ => ?_) | with_reducible refine KP_lt ?_ | with_reducible refine KP_ite ?_ ?_ | with_reducible refine KP_cr (fun _ => ?_) | with_reducible refine KP_rd (fun _ => ?_) | with_reducible refine KP_zz ?_ | with_reducible refine KP_wr (fun _ => ?_) | with_reducible refine KP_ac (fun _ => ?_) | with_reducible refine KP_ci (fun _ _ => ?_) | with_reducible refine KP_cs (fun _ => ?_) | exact KP_some ⟨rfl, rfl⟩ | exact KP_some (by assumption) | exact ⟨rfl, rfl⟩ | assumption)
set_option maxHeartbeats 8000000 in
theorem F_down (σ : SS) (a1 a2 : Int32) : KP σ (pX11_down σ a1 a2) := by
  unfold pX11_down
  repeat' (first | exact KP_none _ | with_reducible refine KP_tell ?_ (fun x τ hτ => ?_) | with_reducible refine KP_orn ?_ (fun x τ hτ => ?_) | with_reducible refine KP_lt ?_ | with_reducible refine KP_ite ?_ ?_ | with_reducible refine KP_cr (fun _ => ?_) | with_reducible refine KP_rd (fun _ => ?_) | with_reducible refine KP_zz ?_ | with_reducible refine KP_wr (fun _ => ?_) | with_reducible refine KP_ac (fun _ => ?_) | with_reducible refine KP_ci (fun _ _ => ?_) | with_reducible refine KP_cs (fun _ => ?_) | exact KP_some ⟨rfl, rfl⟩ | exact KP_some (by assumption) | exact ⟨rfl, rfl⟩ | assumption)
set_option maxHeartbeats 8000000 in
theorem F_feed (σ : SS) (a1 a2 : Int32) : KP σ (pX11_feed σ a1 a2) := by
  unfold pX11_feed
  repeat' (first | exact KP_none _ | with_reducible refine KP_tell ?_ (fun x τ hτ => ?_) | with_reducible refine KP_orn ?_ (fun x τ hτ => ?_) | with_reducible refine KP_lt ?_ | with_reducible refine KP_ite ?_ ?_ | with_reducible refine KP_cr (fun _ => ?_) | with_reducible refine KP_rd (fun _ => ?_) | with_reducible refine KP_zz ?_ | with_reducible refine KP_wr (fun _ => ?_) | with_reducible refine KP_ac (fun _ => ?_) | with_reducible refine KP_ci (fun _ _ => ?_) | with_reducible refine KP_cs (fun _ => ?_) | exact KP_some ⟨rfl, rfl⟩ | exact KP_some (by assumption) | exact ⟨rfl, rfl⟩ | assumption)
set_option maxHeartbeats 8000000 in
theorem F_wipe (σ : SS) : KP σ (pX11_wipe σ) := by
  unfold pX11_wipe
  repeat' (first | exact KP_none _ | with_reducible refine KP_tell ?_ (fun x τ hτ => ?_) | with_reducible refine KP_orn ?_ (fun x τ hτ => ?_) | with_reducible refine KP_lt ?_ | with_reducible refine KP_ite ?_ ?_ | with_reducible refine KP_cr (fun _ => ?_) | with_reducible refine KP_rd (fun _ => ?_) | with_reducible refine KP_zz ?_ | with_reducible refine KP_wr (fun _ => ?_) | with_reducible refine KP_ac (fun _ => ?_) | with_reducible refine KP_ci (fun _ _ => ?_) | with_reducible refine KP_cs (fun _ => ?_) | exact KP_some ⟨rfl, rfl⟩ | exact KP_some (by assumption) | exact ⟨rfl, rfl⟩ | assumption)
set_option maxHeartbeats 8000000 in
theorem F_sky (σ : SS) : KP σ (pX11_sky σ) := by
  unfold pX11_sky
  repeat' (first | exact KP_none _ | with_reducible refine KP_tell ?_ (fun x τ hτ => ?_) | with_reducible refine KP_orn ?_ (fun x τ hτ => ?_) | with_reducible refine KP_lt ?_ | with_reducible refine KP_ite ?_ ?_ | with_reducible refine KP_cr (fun _ => ?_) | with_reducible refine KP_rd (fun _ => ?_) | with_reducible refine KP_zz ?_ | with_reducible refine KP_wr (fun _ => ?_) | with_reducible refine KP_ac (fun _ => ?_) | with_reducible refine KP_ci (fun _ _ => ?_) | with_reducible refine KP_cs (fun _ => ?_) | exact KP_some ⟨rfl, rfl⟩ | exact KP_some (by assumption) | exact ⟨rfl, rfl⟩ | assumption)
set_option maxHeartbeats 8000000 in
theorem F_skyOf (σ : SS) (a1 a2 : Int32) : KP σ (pX11_skyOf σ a1 a2) := by
  unfold pX11_skyOf
  repeat' (first | exact KP_none _ | with_reducible refine KP_tell ?_ (fun x τ hτ => ?_) | with_reducible refine KP_orn ?_ (fun x τ hτ => ?_) | with_reducible refine KP_lt ?_ | with_reducible refine KP_ite ?_ ?_ | with_reducible refine KP_cr (fun _ => ?_) | with_reducible refine KP_rd (fun _ => ?_) | with_reducible refine KP_zz ?_ | with_reducible refine KP_wr (fun _ => ?_) | with_reducible refine KP_ac (fun _ => ?_) | with_reducible refine KP_ci (fun _ _ => ?_) | with_reducible refine KP_cs (fun _ => ?_) | exact KP_some ⟨rfl, rfl⟩ | exact KP_some (by assumption) | exact ⟨rfl, rfl⟩ | assumption)
set_option maxHeartbeats 8000000 in
theorem F_play (σ : SS) (a1 : Int32) : KP σ (pX11_play σ a1) := by
  unfold pX11_play
  repeat' (first | exact KP_none _ | with_reducible refine KP_tell ?_ (fun x τ hτ => ?_) | with_reducible refine KP_orn ?_ (fun x τ hτ => ?_) | with_reducible refine KP_lt ?_ | with_reducible refine KP_ite ?_ ?_ | with_reducible refine KP_cr (fun _ => ?_) | with_reducible refine KP_rd (fun _ => ?_) | with_reducible refine KP_zz ?_ | with_reducible refine KP_wr (fun _ => ?_) | with_reducible refine KP_ac (fun _ => ?_) | with_reducible refine KP_ci (fun _ _ => ?_) | with_reducible refine KP_cs (fun _ => ?_) | exact KP_some ⟨rfl, rfl⟩ | exact KP_some (by assumption) | exact ⟨rfl, rfl⟩ | assumption)
set_option maxHeartbeats 8000000 in
theorem F_ahead (σ : SS) (a1 a2 : Int32) : KP σ (pX11_ahead σ a1 a2) := by
  unfold pX11_ahead
  repeat' (first | exact KP_none _ | with_reducible refine KP_tell ?_ (fun x τ hτ => ?_) | with_reducible refine KP_orn ?_ (fun x τ hτ => ?_) | with_reducible refine KP_lt ?_ | with_reducible refine KP_ite ?_ ?_ | with_reducible refine KP_cr (fun _ => ?_) | with_reducible refine KP_rd (fun _ => ?_) | with_reducible refine KP_zz ?_ | with_reducible refine KP_wr (fun _ => ?_) | with_reducible refine KP_ac (fun _ => ?_) | with_reducible refine KP_ci (fun _ _ => ?_) | with_reducible refine KP_cs (fun _ => ?_) | exact KP_some ⟨rfl, rfl⟩ | exact KP_some (by assumption) | exact ⟨rfl, rfl⟩ | assumption)
set_option maxHeartbeats 8000000 in
theorem F_under (σ : SS) (a1 a2 : Int32) : KP σ (pX11_under σ a1 a2) := by
  unfold pX11_under
  repeat' (first | exact KP_none _ | with_reducible refine KP_tell ?_ (fun x τ hτ => ?_) | with_reducible refine KP_orn ?_ (fun x τ hτ => ?_) | with_reducible refine KP_lt ?_ | with_reducible refine KP_ite ?_ ?_ | with_reducible refine KP_cr (fun _ => ?_) | with_reducible refine KP_rd (fun _ => ?_) | with_reducible refine KP_zz ?_ | with_reducible refine KP_wr (fun _ => ?_) | with_reducible refine KP_ac (fun _ => ?_) | with_reducible refine KP_ci (fun _ _ => ?_) | with_reducible refine KP_cs (fun _ => ?_) | exact KP_some ⟨rfl, rfl⟩ | exact KP_some (by assumption) | exact ⟨rfl, rfl⟩ | assumption)
set_option maxHeartbeats 8000000 in
theorem F_reaches (σ : SS) (a1 : Int32) : KP σ (pX11_reaches σ a1) := by
  unfold pX11_reaches
  repeat' (first | exact KP_none _ | with_reducible refine KP_tell ?_ (fun x τ hτ => ?_) | with_reducible refine KP_orn ?_ (fun x τ hτ => ?_) | with_reducible refine KP_lt ?_ | with_reducible refine KP_ite ?_ ?_ | with_reducible refine KP_cr (fun _ => ?_) | with_reducible refine KP_rd (fun _ => ?_) | with_reducible refine KP_zz ?_ | with_reducible refine KP_wr (fun _ => ?_) | with_reducible refine KP_ac (fun _ => ?_) | with_reducible refine KP_ci (fun _ _ => ?_) | with_reducible refine KP_cs (fun _ => ?_) | exact KP_some ⟨rfl, rfl⟩ | exact KP_some (by assumption) | exact ⟨rfl, rfl⟩ | assumption)
set_option maxHeartbeats 8000000 in
theorem F_bestOn (σ : SS) (a1 a2 : Int32) : KP σ (pX11_bestOn σ a1 a2) := by
  unfold pX11_bestOn
  repeat' (first | exact KP_none _ | with_reducible refine KP_tell ?_ (fun x τ hτ => ?_) | with_reducible refine KP_orn ?_ (fun x τ hτ => ?_) | with_reducible refine KP_lt ?_ | with_reducible refine KP_ite ?_ ?_ | with_reducible refine KP_cr (fun _ => ?_) | with_reducible refine KP_rd (fun _ => ?_) | with_reducible refine KP_zz ?_ | with_reducible refine KP_wr (fun _ => ?_) | with_reducible refine KP_ac (fun _ => ?_) | with_reducible refine KP_ci (fun _ _ => ?_) | with_reducible refine KP_cs (fun _ => ?_) | exact KP_some ⟨rfl, rfl⟩ | exact KP_some (by assumption) | exact ⟨rfl, rfl⟩ | assumption)
set_option maxHeartbeats 8000000 in
theorem F_rateFor (σ : SS) (a1 a2 : Int32) : KP σ (pX11_rateFor σ a1 a2) := by
  unfold pX11_rateFor
  repeat' (first | exact KP_none _ | with_reducible refine KP_tell ?_ (fun x τ hτ => ?_) | with_reducible refine KP_orn ?_ (fun x τ hτ => ?_) | with_reducible refine KP_lt ?_ | with_reducible refine KP_ite ?_ ?_ | with_reducible refine KP_cr (fun _ => ?_) | with_reducible refine KP_rd (fun _ => ?_) | with_reducible refine KP_zz ?_ | with_reducible refine KP_wr (fun _ => ?_) | with_reducible refine KP_ac (fun _ => ?_) | with_reducible refine KP_ci (fun _ _ => ?_) | with_reducible refine KP_cs (fun _ => ?_) | exact KP_some ⟨rfl, rfl⟩ | exact KP_some (by assumption) | exact ⟨rfl, rfl⟩ | assumption)
set_option maxHeartbeats 8000000 in
theorem F_batteryFor (σ : SS) (a1 a2 : Int32) : KP σ (pX11_batteryFor σ a1 a2) := by
  unfold pX11_batteryFor
  repeat' (first | exact KP_none _ | with_reducible refine KP_tell ?_ (fun x τ hτ => ?_) | with_reducible refine KP_orn ?_ (fun x τ hτ => ?_) | with_reducible refine KP_lt ?_ | with_reducible refine KP_ite ?_ ?_ | with_reducible refine KP_cr (fun _ => ?_) | with_reducible refine KP_rd (fun _ => ?_) | with_reducible refine KP_zz ?_ | with_reducible refine KP_wr (fun _ => ?_) | with_reducible refine KP_ac (fun _ => ?_) | with_reducible refine KP_ci (fun _ _ => ?_) | with_reducible refine KP_cs (fun _ => ?_) | exact KP_some ⟨rfl, rfl⟩ | exact KP_some (by assumption) | exact ⟨rfl, rfl⟩ | assumption)
set_option maxHeartbeats 8000000 in
theorem F_cost (σ : SS) (a1 a2 : Int32) : KP σ (pX11_cost σ a1 a2) := by
  unfold pX11_cost
  repeat' (first | exact KP_none _ | with_reducible refine KP_tell ?_ (fun x τ hτ => ?_) | with_reducible refine KP_orn ?_ (fun x τ hτ => ?_) | with_reducible refine KP_lt ?_ | with_reducible refine KP_ite ?_ ?_ | with_reducible refine KP_cr (fun _ => ?_) | with_reducible refine KP_rd (fun _ => ?_) | with_reducible refine KP_zz ?_ | with_reducible refine KP_wr (fun _ => ?_) | with_reducible refine KP_ac (fun _ => ?_) | with_reducible refine KP_ci (fun _ _ => ?_) | with_reducible refine KP_cs (fun _ => ?_) | exact KP_some ⟨rfl, rfl⟩ | exact KP_some (by assumption) | exact ⟨rfl, rfl⟩ | assumption)
set_option maxHeartbeats 8000000 in
theorem F_build (σ : SS) (a1 : Int32) : KP σ (pX11_build σ a1) := by
  unfold pX11_build
  repeat' (first | exact KP_none _ | with_reducible refine KP_tell ?_ (fun x τ hτ => ?_) | with_reducible refine KP_orn ?_ (fun x τ hτ => ?_) | with_reducible refine KP_lt ?_ | with_reducible refine KP_ite ?_ ?_ | with_reducible refine KP_cr (fun _ => ?_) | with_reducible refine KP_rd (fun _ => ?_) | with_reducible refine KP_zz ?_ | with_reducible refine KP_wr (fun _ => ?_) | with_reducible refine KP_ac (fun _ => ?_) | with_reducible refine KP_ci (fun _ _ => ?_) | with_reducible refine KP_cs (fun _ => ?_) | exact KP_some ⟨rfl, rfl⟩ | exact KP_some (by assumption) | exact ⟨rfl, rfl⟩ | assumption)
set_option maxHeartbeats 8000000 in
theorem F_worth (σ : SS) (a1 a2 a3 : Int32) : KP σ (pX11_worth σ a1 a2 a3) := by
  unfold pX11_worth
  repeat' (first | exact KP_none _ | with_reducible refine KP_tell ?_ (fun x τ hτ => ?_) | with_reducible refine KP_orn ?_ (fun x τ hτ => ?_) | with_reducible refine KP_lt ?_ | with_reducible refine KP_ite ?_ ?_ | with_reducible refine KP_cr (fun _ => ?_) | with_reducible refine KP_rd (fun _ => ?_) | with_reducible refine KP_zz ?_ | with_reducible refine KP_wr (fun _ => ?_) | with_reducible refine KP_ac (fun _ => ?_) | with_reducible refine KP_ci (fun _ _ => ?_) | with_reducible refine KP_cs (fun _ => ?_) | exact KP_some ⟨rfl, rfl⟩ | exact KP_some (by assumption) | exact ⟨rfl, rfl⟩ | assumption)
set_option maxHeartbeats 8000000 in
theorem F_odds (σ : SS) (a1 a2 a3 : Int32) : KP σ (pX11_odds σ a1 a2 a3) := by
  unfold pX11_odds
  have T : KP σ (q_ci (pX11_tell σ (-1000001)) (fun (τ : SS) => τ) (fun (r : Int32) (σ : SS) => some (r, σ))) := KP_tell ⟨rfl, rfl⟩ (fun x τ hτ => KP_some hτ)
  refine KP_cr (fun _ => KP_lt (KP_ite T (KP_cr (fun _ => KP_ite T (KP_cr (fun _ => KP_ite T ?_))))))
  refine KP_lp (fun (f : SS → Int32 → Int32 → Option (Int32 × SS)) => ∀ s x y, Kp σ s → KP σ (f s x y)) (fun _ _ _ _ => KP_none _) (fun f hf s x y hs => ?_) q_fu σ 0 0 ⟨rfl, rfl⟩
  refine KP_ite (KP_some hs) (KP_ci (fun _ _ => KP_lt (KP_ci (fun _ _ => KP_lt ?_))))
  exact KP_ite (KP_ci (fun _ _ => KP_lt (KP_ite (hf _ _ _ ⟨hs.1, hs.2⟩) (hf _ _ _ ⟨hs.1, hs.2⟩)))) (KP_ci (fun _ _ => KP_lt (KP_ite (hf _ _ _ ⟨hs.1, hs.2⟩) (hf _ _ _ ⟨hs.1, hs.2⟩))))
set_option maxHeartbeats 8000000 in
theorem F_seed (σ : SS) (a1 : Int32) : KP σ (pX11_seed σ a1) := by
  unfold pX11_seed
  repeat' (first | exact KP_none _ | with_reducible refine KP_tell ?_ (fun x τ hτ => ?_) | with_reducible refine KP_orn ?_ (fun x τ hτ => ?_) | with_reducible refine KP_lt ?_ | with_reducible refine KP_ite ?_ ?_ | with_reducible refine KP_cr (fun _ => ?_) | with_reducible refine KP_rd (fun _ => ?_) | with_reducible refine KP_zz ?_ | with_reducible refine KP_wr (fun _ => ?_) | with_reducible refine KP_ac (fun _ => ?_) | with_reducible refine KP_ci (fun _ _ => ?_) | with_reducible refine KP_cs (fun _ => ?_) | exact KP_some ⟨rfl, rfl⟩ | exact KP_some (by assumption) | exact ⟨rfl, rfl⟩ | assumption)
set_option maxHeartbeats 8000000 in
theorem F_hold (σ : SS) (a1 a2 : Int32) : KP σ (pX11_hold σ a1 a2) := by
  unfold pX11_hold
  repeat' (first | exact KP_none _ | with_reducible refine KP_tell ?_ (fun x τ hτ => ?_) | with_reducible refine KP_orn ?_ (fun x τ hτ => ?_) | with_reducible refine KP_lt ?_ | with_reducible refine KP_ite ?_ ?_ | with_reducible refine KP_cr (fun _ => ?_) | with_reducible refine KP_rd (fun _ => ?_) | with_reducible refine KP_zz ?_ | with_reducible refine KP_wr (fun _ => ?_) | with_reducible refine KP_ac (fun _ => ?_) | with_reducible refine KP_ci (fun _ _ => ?_) | with_reducible refine KP_cs (fun _ => ?_) | exact KP_some ⟨rfl, rfl⟩ | exact KP_some (by assumption) | exact ⟨rfl, rfl⟩ | assumption)
set_option maxHeartbeats 8000000 in
theorem F_as (σ : SS) (a1 a2 : Int32) : KP σ (pX11_as σ a1 a2) := by
  unfold pX11_as
  repeat' (first | exact KP_none _ | with_reducible refine KP_tell ?_ (fun x τ hτ => ?_) | with_reducible refine KP_orn ?_ (fun x τ hτ => ?_) | with_reducible refine KP_lt ?_ | with_reducible refine KP_ite ?_ ?_ | with_reducible refine KP_cr (fun _ => ?_) | with_reducible refine KP_rd (fun _ => ?_) | with_reducible refine KP_zz ?_ | with_reducible refine KP_wr (fun _ => ?_) | with_reducible refine KP_ac (fun _ => ?_) | with_reducible refine KP_ci (fun _ _ => ?_) | with_reducible refine KP_cs (fun _ => ?_) | exact KP_some ⟨rfl, rfl⟩ | exact KP_some (by assumption) | exact ⟨rfl, rfl⟩ | assumption)
set_option maxHeartbeats 8000000 in
theorem F_sheet (σ : SS) (a1 a2 a3 : Int32) : KP σ (pX11_sheet σ a1 a2 a3) := by
  unfold pX11_sheet
  repeat' (first | exact KP_none _ | with_reducible refine KP_tell ?_ (fun x τ hτ => ?_) | with_reducible refine KP_orn ?_ (fun x τ hτ => ?_) | with_reducible refine KP_lt ?_ | with_reducible refine KP_ite ?_ ?_ | with_reducible refine KP_cr (fun _ => ?_) | with_reducible refine KP_rd (fun _ => ?_) | with_reducible refine KP_zz ?_ | with_reducible refine KP_wr (fun _ => ?_) | with_reducible refine KP_ac (fun _ => ?_) | with_reducible refine KP_ci (fun _ _ => ?_) | with_reducible refine KP_cs (fun _ => ?_) | exact KP_some ⟨rfl, rfl⟩ | exact KP_some (by assumption) | exact ⟨rfl, rfl⟩ | assumption)
set_option maxHeartbeats 8000000 in
theorem F_write (σ : SS) (a1 a2 a3 : Int32) : KP σ (pX11_write σ a1 a2 a3) := by
  unfold pX11_write
  repeat' (first | exact KP_none _ | with_reducible refine KP_tell ?_ (fun x τ hτ => ?_) | with_reducible refine KP_orn ?_ (fun x τ hτ => ?_) | with_reducible refine KP_lt ?_ | with_reducible refine KP_ite ?_ ?_ | with_reducible refine KP_cr (fun _ => ?_) | with_reducible refine KP_rd (fun _ => ?_) | with_reducible refine KP_zz ?_ | with_reducible refine KP_wr (fun _ => ?_) | with_reducible refine KP_ac (fun _ => ?_) | with_reducible refine KP_ci (fun _ _ => ?_) | with_reducible refine KP_cs (fun _ => ?_) | exact KP_some ⟨rfl, rfl⟩ | exact KP_some (by assumption) | exact ⟨rfl, rfl⟩ | assumption)
set_option maxHeartbeats 8000000 in
theorem F_copy (σ : SS) (a1 a2 a3 a4 a5 : Int32) : KP σ (pX11_copy σ a1 a2 a3 a4 a5) := by
  unfold pX11_copy
  repeat' (first | exact KP_none _ | with_reducible refine KP_tell ?_ (fun x τ hτ => ?_) | with_reducible refine KP_orn ?_ (fun x τ hτ => ?_) | with_reducible refine KP_lt ?_ | with_reducible refine KP_ite ?_ ?_ | with_reducible refine KP_cr (fun _ => ?_) | with_reducible refine KP_rd (fun _ => ?_) | with_reducible refine KP_zz ?_ | with_reducible refine KP_wr (fun _ => ?_) | with_reducible refine KP_ac (fun _ => ?_) | with_reducible refine KP_ci (fun _ _ => ?_) | with_reducible refine KP_cs (fun _ => ?_) | exact KP_some ⟨rfl, rfl⟩ | exact KP_some (by assumption) | exact ⟨rfl, rfl⟩ | assumption)
set_option maxHeartbeats 8000000 in
theorem F_load (σ : SS) (a1 : Int32) : KP σ (pX11_load σ a1) := by
  have lp : ∀ (b b1 : Nat), KP σ (q_lp (fun _ _ => none) (fun (c8 : SS → Int32 → Option (Int32 × SS)) (σ7 : SS) (x2_6 : Int32) => q_lt (some (x2_6, σ7)) (fun j11 => (if (σ7 b 1) ≤ x2_6 then j11 else q_rd (σ7 b1) 40 x2_6 (fun v13 => q_rd k_least 8 0 (fun v14 => q_rd k_most 8 0 (fun v15 => q_cr (pX11_within v13 v14 v15) (fun r16 => (if r16 = 0 then j11 else q_rd (σ7 b1) 40 x2_6 (fun v18 => q_lt (su σ7 3 6 v18) (fun (σ19 : SS) => q_cs (pX0_passMinute (q_sb σ19 3)) (fun (τ : SS) => (q_em σ19 3 0 13 τ)) (fun (σ20 : SS) => c8 σ20 (x2_6 + 1)))))))))))) q_fu σ 0) := by
    intro b b1
    refine KP_lp (fun (f : SS → Int32 → Option (Int32 × SS)) => ∀ s x, Kp σ s → KP σ (f s x)) (fun _ _ _ => KP_none _) (fun f hf s x hs => ?_) q_fu σ 0 ⟨rfl, rfl⟩
    exact KP_lt (KP_ite (KP_some hs) (KP_rd (fun _ => KP_rd (fun _ => KP_rd (fun _ => KP_cr (fun _ => KP_ite (KP_some hs) (KP_rd (fun _ => KP_lt (KP_cs (fun _ => hf _ _ ⟨hs.1, hs.2⟩))))))))))
  unfold pX11_load
  refine KP_cr (fun _ => KP_ite (KP_tell ⟨rfl, rfl⟩ (fun x τ hτ => KP_some hτ)) (KP_ite (KP_cr (fun _ => KP_ite (lp 44 45) (KP_tell ⟨rfl, rfl⟩ (fun x τ hτ => KP_some hτ)))) (KP_ite (KP_cr (fun _ => KP_ite (lp 46 47) (KP_tell ⟨rfl, rfl⟩ (fun x τ hτ => KP_some hτ)))) (KP_ite (KP_cr (fun _ => KP_ite (lp 48 49) (KP_tell ⟨rfl, rfl⟩ (fun x τ hτ => KP_some hτ)))) (KP_ite (KP_cr (fun _ => KP_ite (lp 50 51) (KP_tell ⟨rfl, rfl⟩ (fun x τ hτ => KP_some hτ)))) (KP_none _))))))
set_option maxHeartbeats 8000000 in
theorem F_judge (σ : SS) (a1 : Int32) : KP σ (pX11_judge σ a1) := by
  unfold pX11_judge
  repeat' (first | exact KP_none _ | with_reducible refine KP_tell ?_ (fun x τ hτ => ?_) | with_reducible refine KP_orn ?_ (fun x τ hτ => ?_) | with_reducible refine KP_lt ?_ | with_reducible refine KP_ite ?_ ?_ | with_reducible refine KP_cr (fun _ => ?_) | with_reducible refine KP_rd (fun _ => ?_) | with_reducible refine KP_zz ?_ | with_reducible refine KP_wr (fun _ => ?_) | with_reducible refine KP_ac (fun _ => ?_) | with_reducible refine KP_ci (fun _ _ => ?_) | with_reducible refine KP_cs (fun _ => ?_) | exact KP_some ⟨rfl, rfl⟩ | exact KP_some (by assumption) | exact ⟨rfl, rfl⟩ | assumption)
set_option maxHeartbeats 8000000 in
theorem F_image (σ : SS) : KP σ (pX11_image σ) := by
  unfold pX11_image
  repeat' (first | exact KP_none _ | with_reducible refine KP_tell ?_ (fun x τ hτ => ?_) | with_reducible refine KP_orn ?_ (fun x τ hτ => ?_) | with_reducible refine KP_lt ?_ | with_reducible refine KP_ite ?_ ?_ | with_reducible refine KP_cr (fun _ => ?_) | with_reducible refine KP_rd (fun _ => ?_) | with_reducible refine KP_zz ?_ | with_reducible refine KP_wr (fun _ => ?_) | with_reducible refine KP_ac (fun _ => ?_) | with_reducible refine KP_ci (fun _ _ => ?_) | with_reducible refine KP_cs (fun _ => ?_) | exact KP_some ⟨rfl, rfl⟩ | exact KP_some (by assumption) | exact ⟨rfl, rfl⟩ | assumption)
set_option maxHeartbeats 8000000 in
theorem F_undo (σ : SS) : KP σ (pX11_undo σ) := by
  unfold pX11_undo
  repeat' (first | exact KP_none _ | with_reducible refine KP_tell ?_ (fun x τ hτ => ?_) | with_reducible refine KP_orn ?_ (fun x τ hτ => ?_) | with_reducible refine KP_lt ?_ | with_reducible refine KP_ite ?_ ?_ | with_reducible refine KP_cr (fun _ => ?_) | with_reducible refine KP_rd (fun _ => ?_) | with_reducible refine KP_zz ?_ | with_reducible refine KP_wr (fun _ => ?_) | with_reducible refine KP_ac (fun _ => ?_) | with_reducible refine KP_ci (fun _ _ => ?_) | with_reducible refine KP_cs (fun _ => ?_) | exact KP_some ⟨rfl, rfl⟩ | exact KP_some (by assumption) | exact ⟨rfl, rfl⟩ | assumption)
set_option maxHeartbeats 8000000 in
theorem F_tear (σ : SS) : KP σ (pX11_tear σ) := by
  unfold pX11_tear
  repeat' (first | exact KP_none _ | with_reducible refine KP_tell ?_ (fun x τ hτ => ?_) | with_reducible refine KP_orn ?_ (fun x τ hτ => ?_) | with_reducible refine KP_lt ?_ | with_reducible refine KP_ite ?_ ?_ | with_reducible refine KP_cr (fun _ => ?_) | with_reducible refine KP_rd (fun _ => ?_) | with_reducible refine KP_zz ?_ | with_reducible refine KP_wr (fun _ => ?_) | with_reducible refine KP_ac (fun _ => ?_) | with_reducible refine KP_ci (fun _ _ => ?_) | with_reducible refine KP_cs (fun _ => ?_) | exact KP_some ⟨rfl, rfl⟩ | exact KP_some (by assumption) | exact ⟨rfl, rfl⟩ | assumption)
set_option maxHeartbeats 8000000 in
theorem F_count (σ : SS) (a1 : Int32) : KP σ (pX11_count σ a1) := by
  unfold pX11_count
  repeat' (first | exact KP_none _ | with_reducible refine KP_tell ?_ (fun x τ hτ => ?_) | with_reducible refine KP_orn ?_ (fun x τ hτ => ?_) | with_reducible refine KP_lt ?_ | with_reducible refine KP_ite ?_ ?_ | with_reducible refine KP_cr (fun _ => ?_) | with_reducible refine KP_rd (fun _ => ?_) | with_reducible refine KP_zz ?_ | with_reducible refine KP_wr (fun _ => ?_) | with_reducible refine KP_ac (fun _ => ?_) | with_reducible refine KP_ci (fun _ _ => ?_) | with_reducible refine KP_cs (fun _ => ?_) | exact KP_some ⟨rfl, rfl⟩ | exact KP_some (by assumption) | exact ⟨rfl, rfl⟩ | assumption)
set_option maxHeartbeats 8000000 in
theorem F_status (σ : SS) (a1 : Int32) : KP σ (pX11_status σ a1) := by
  unfold pX11_status
  refine KP_cr (fun _ => KP_ite (KP_tell ⟨rfl, rfl⟩ (fun x τ hτ => KP_some hτ)) (KP_ite ?_ (KP_rd (fun _ => KP_some ⟨rfl, rfl⟩))))
  refine KP_lp (fun (f : Int32 → Int32 → Option (Int32 × SS)) => ∀ x y, KP σ (f x y)) (fun _ _ => KP_none _) (fun f hf x y => ?_) q_fu 0 0
  exact KP_ite (KP_some ⟨rfl, rfl⟩) (KP_rd (fun _ => KP_lt (hf _ _)))
