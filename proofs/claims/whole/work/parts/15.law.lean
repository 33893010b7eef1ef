/-! THE CLAIM OUT OF ONE WALK OF THE LAW'S BODY. Your part is whole_start (and what it stands on); all else here is the same for every law, but numbers. -/
def R_law : String := "CellarPumpLaw"
def lw_P (b : Addr) (xs : List Int32) (args : Array Value) (s : State) : Prop := args = #[.ref b] ∧ s.IntsAt b xs ∧ xs.length ≤ 384 ∧ (Jvm.Cond.and given_1 narrow_1).before args s = true
def lw_Q (_ : Array Value) (s : State) (o : Outcome) (t : State) : Prop := o = .returned (some (.int 1)) ∧ Framed s o t [] 600000 7302250
def lw_Z (below : List Frame) (a : Array Value) (s : State) : State → Prop := fun t => ∃ o, t.status = .running ∧ Ended t below o ∧ lw_Q a s o t
/-- the law's own end, with 1 on the stack, nothing written that was there before, its room as the claim has it -/
theorem lw_ret {p : Program} {l : Launch} {e : Env} {s : State} {m : MethodId} {below : List Frame} {meth : Method} {c : Code} {b : Nat} (hx : p.tables.exec = Jvm.exec) (hb : c.code = code) (hr : meth.sig.returnType = ret) (hlocks : meth.locks = false) {pc : Nat} {H : Heap} {ls : Array Slot} (hdg : decode code pc = .ok (.ireturn, 1)) : W p l e room_1 s m #[Value.ref b] below meth c H [] 600000 7302250 (lw_Z below #[Value.ref b] s) (F0 m pc ls [.int 1]) := by
  intro T hT X
  obtain ⟨fs, hret, hrun, hended, hW, hframe⟩ := X.leave (v := some (.int 1)) (hlocks := hlocks) (fun h => by rw [hr] at h; cases h)
  have hmeth' : T.vm.method? m = some meth := X.method'
  refine ⟨T.setFrames fs, ?_, .returned (some (.int 1)), hrun, hended, rfl, ⟨_, rfl⟩, hW, hframe⟩
  jvm_step X.here [X.here.top, hx, hb, hdg, hmeth', hr, ret, narrow_b1]
  (try refine ⟨rfl, ?_⟩); (try refine ⟨rfl, ?_⟩)
  first | (intro acts; rw [hret _ acts rfl rfl rfl]) | rw [hret _ _ rfl rfl rfl]
  exact Steps.refl _
/-- what holds at the law's entry: the machine, the code, the tables' words (any of lw_tbl by 'hts w (by decide +kernel)'), the script of L ints xs at the cell b, what the Statement gives of the start (any of its parts by flat_of_before) -/
def lw_At (p : Program) (s : State) (m : MethodId) (meth : Method) (c : Code) (b L : Nat) (xs : Nat → Int32) : Prop :=
  p.tables.exec = Jvm.exec ∧ c.code = code ∧ meth.sig.returnType = ret ∧ c.maxLocals = 4 ∧ s.vm.findClass R_law = some m.cls ∧ (∀ w ∈ lw_tbl, w.before #[Value.ref b] s = true) ∧ va_X b L xs s s.heap ∧ b < s.heap.size ∧ meth.locks = false ∧ (Jvm.Cond.and given_1 narrow_1).before #[Value.ref b] s = true
def S_water (Rel : SS → SS → Prop) : Prop := ∀ (σ τ : SS) (a1 a2 a3 : Int32), Rel σ τ → ∃ (r : Int32) (σ2 : SS) (τ2 : SS), pX11_water σ a1 a2 a3 = some (r, σ2) ∧ pX12_water τ a1 a2 a3 = some (r, τ2) ∧ Rel σ2 τ2
def S_waterOf (Rel : SS → SS → Prop) : Prop := ∀ (σ τ : SS) (a1 a2 : Int32), Rel σ τ → ∃ (r : Int32) (σ2 : SS) (τ2 : SS), pX11_waterOf σ a1 a2 = some (r, σ2) ∧ pX12_waterOf τ a1 a2 = some (r, τ2) ∧ Rel σ2 τ2
def S_change (Rel : SS → SS → Prop) : Prop := ∀ (σ τ : SS) (a1 a2 a3 : Int32), Rel σ τ → ∃ (r : Int32) (σ2 : SS) (τ2 : SS), pX11_change σ a1 a2 a3 = some (r, σ2) ∧ pX12_change τ a1 a2 a3 = some (r, τ2) ∧ Rel σ2 τ2
def S_set (Rel : SS → SS → Prop) : Prop := ∀ (σ τ : SS) (a1 a2 : Int32), Rel σ τ → ∃ (r : Int32) (σ2 : SS) (τ2 : SS), pX11_set σ a1 a2 = some (r, σ2) ∧ pX12_set τ a1 a2 = some (r, τ2) ∧ Rel σ2 τ2
def S_current (Rel : SS → SS → Prop) : Prop := ∀ (σ τ : SS) (a1 : Int32), (a1 = 0 ∨ a1 = 1) → Rel σ τ → ∃ (r : Int32) (σ2 : SS) (τ2 : SS), pX11_current σ a1 = some (r, σ2) ∧ pX12_current τ a1 = some (r, τ2) ∧ Rel σ2 τ2
def S_flap (Rel : SS → SS → Prop) : Prop := ∀ (σ τ : SS) (a1 : Int32), (a1 = 0 ∨ a1 = 1) → Rel σ τ → ∃ (r : Int32) (σ2 : SS) (τ2 : SS), pX11_flap σ a1 = some (r, σ2) ∧ pX12_flap τ a1 = some (r, τ2) ∧ Rel σ2 τ2
def S_minutes (Rel : SS → SS → Prop) : Prop := ∀ (σ τ : SS) (a1 : Int32), Rel σ τ → ∃ (r : Int32) (σ2 : SS) (τ2 : SS), pX11_minutes σ a1 = some (r, σ2) ∧ pX12_minutes τ a1 = some (r, τ2) ∧ Rel σ2 τ2
def S_now (Rel : SS → SS → Prop) : Prop := ∀ (σ τ : SS) (a1 : Int32), Rel σ τ → ∃ (r : Int32) (σ2 : SS) (τ2 : SS), pX11_now σ a1 = some (r, σ2) ∧ pX12_now τ a1 = some (r, τ2) ∧ Rel σ2 τ2
def S_renew (Rel : SS → SS → Prop) : Prop := ∀ (σ τ : SS), Rel σ τ → ∃ (r : Int32) (σ2 : SS) (τ2 : SS), pX11_renew σ = some (r, σ2) ∧ pX12_renew τ = some (r, τ2) ∧ Rel σ2 τ2
def S_start (Rel : SS → SS → Prop) : Prop := ∀ (σ τ : SS) (a1 : Int32), Rel σ τ → ∃ (r : Int32) (σ2 : SS) (τ2 : SS), pX11_start σ a1 = some (r, σ2) ∧ pX12_start τ a1 = some (r, τ2) ∧ Rel σ2 τ2
def S_quickest (Rel : SS → SS → Prop) : Prop := ∀ (σ τ : SS), Rel σ τ → ∃ (r : Int32) (σ2 : SS) (τ2 : SS), pX11_quickest σ = some (r, σ2) ∧ pX12_quickest τ = some (r, τ2) ∧ Rel σ2 τ2
def S_came (Rel : SS → SS → Prop) : Prop := ∀ (σ τ : SS), Rel σ τ → ∃ (r : Int32) (σ2 : SS) (τ2 : SS), pX11_came σ = some (r, σ2) ∧ pX12_came τ = some (r, τ2) ∧ Rel σ2 τ2
def S_thing (Rel : SS → SS → Prop) : Prop := ∀ (σ τ : SS) (a1 a2 a3 : Int32), Rel σ τ → ∃ (r : Int32) (σ2 : SS) (τ2 : SS), pX11_thing σ a1 a2 a3 = some (r, σ2) ∧ pX12_thing τ a1 a2 a3 = some (r, τ2) ∧ Rel σ2 τ2
def S_thingOf (Rel : SS → SS → Prop) : Prop := ∀ (σ τ : SS) (a1 a2 : Int32), Rel σ τ → ∃ (r : Int32) (σ2 : SS) (τ2 : SS), pX11_thingOf σ a1 a2 = some (r, σ2) ∧ pX12_thingOf τ a1 a2 = some (r, τ2) ∧ Rel σ2 τ2
def S_lift (Rel : SS → SS → Prop) : Prop := ∀ (σ τ : SS) (a1 : Int32), Rel σ τ → ∃ (r : Int32) (σ2 : SS) (τ2 : SS), pX11_lift σ a1 = some (r, σ2) ∧ pX12_lift τ a1 = some (r, τ2) ∧ Rel σ2 τ2
def S_down (Rel : SS → SS → Prop) : Prop := ∀ (σ τ : SS) (a1 a2 : Int32), Rel σ τ → ∃ (r : Int32) (σ2 : SS) (τ2 : SS), pX11_down σ a1 a2 = some (r, σ2) ∧ pX12_down τ a1 a2 = some (r, τ2) ∧ Rel σ2 τ2
def S_harm (Rel : SS → SS → Prop) : Prop := ∀ (σ τ : SS), Rel σ τ → ∃ (r : Int32), pX11_harm σ = some r ∧ pX12_harm τ = some r ∧ Rel σ τ
def S_feed (Rel : SS → SS → Prop) : Prop := ∀ (σ τ : SS) (a1 a2 : Int32), Rel σ τ → ∃ (r : Int32) (σ2 : SS) (τ2 : SS), pX11_feed σ a1 a2 = some (r, σ2) ∧ pX12_feed τ a1 a2 = some (r, τ2) ∧ Rel σ2 τ2
def S_wipe (Rel : SS → SS → Prop) : Prop := ∀ (σ τ : SS), Rel σ τ → ∃ (r : Int32) (σ2 : SS) (τ2 : SS), pX11_wipe σ = some (r, σ2) ∧ pX12_wipe τ = some (r, τ2) ∧ Rel σ2 τ2
def S_sky (Rel : SS → SS → Prop) : Prop := ∀ (σ τ : SS), Rel σ τ → ∃ (r : Int32) (σ2 : SS) (τ2 : SS), pX11_sky σ = some (r, σ2) ∧ pX12_sky τ = some (r, τ2) ∧ Rel σ2 τ2
def S_skyOf (Rel : SS → SS → Prop) : Prop := ∀ (σ τ : SS) (a1 a2 : Int32), Rel σ τ → ∃ (r : Int32) (σ2 : SS) (τ2 : SS), pX11_skyOf σ a1 a2 = some (r, σ2) ∧ pX12_skyOf τ a1 a2 = some (r, τ2) ∧ Rel σ2 τ2
def S_play (Rel : SS → SS → Prop) : Prop := ∀ (σ τ : SS) (a1 : Int32), Rel σ τ → ∃ (r : Int32) (σ2 : SS) (τ2 : SS), pX11_play σ a1 = some (r, σ2) ∧ pX12_play τ a1 = some (r, τ2) ∧ Rel σ2 τ2
def S_ahead (Rel : SS → SS → Prop) : Prop := ∀ (σ τ : SS) (a1 a2 : Int32), Rel σ τ → ∃ (r : Int32) (σ2 : SS) (τ2 : SS), pX11_ahead σ a1 a2 = some (r, σ2) ∧ pX12_ahead τ a1 a2 = some (r, τ2) ∧ Rel σ2 τ2
def S_under (Rel : SS → SS → Prop) : Prop := ∀ (σ τ : SS) (a1 a2 : Int32), Rel σ τ → ∃ (r : Int32) (σ2 : SS) (τ2 : SS), pX11_under σ a1 a2 = some (r, σ2) ∧ pX12_under τ a1 a2 = some (r, τ2) ∧ Rel σ2 τ2
def S_reaches (Rel : SS → SS → Prop) : Prop := ∀ (σ τ : SS) (a1 : Int32), Rel σ τ → ∃ (r : Int32) (σ2 : SS) (τ2 : SS), pX11_reaches σ a1 = some (r, σ2) ∧ pX12_reaches τ a1 = some (r, τ2) ∧ Rel σ2 τ2
def S_bestOn (Rel : SS → SS → Prop) : Prop := ∀ (σ τ : SS) (a1 a2 : Int32), Rel σ τ → ∃ (r : Int32) (σ2 : SS) (τ2 : SS), pX11_bestOn σ a1 a2 = some (r, σ2) ∧ pX12_bestOn τ a1 a2 = some (r, τ2) ∧ Rel σ2 τ2
def S_rateFor (Rel : SS → SS → Prop) : Prop := ∀ (σ τ : SS) (a1 a2 : Int32), Rel σ τ → ∃ (r : Int32) (σ2 : SS) (τ2 : SS), pX11_rateFor σ a1 a2 = some (r, σ2) ∧ pX12_rateFor τ a1 a2 = some (r, τ2) ∧ Rel σ2 τ2
def S_batteryFor (Rel : SS → SS → Prop) : Prop := ∀ (σ τ : SS) (a1 a2 : Int32), Rel σ τ → ∃ (r : Int32) (σ2 : SS) (τ2 : SS), pX11_batteryFor σ a1 a2 = some (r, σ2) ∧ pX12_batteryFor τ a1 a2 = some (r, τ2) ∧ Rel σ2 τ2
def S_cost (Rel : SS → SS → Prop) : Prop := ∀ (σ τ : SS) (a1 a2 : Int32), Rel σ τ → ∃ (r : Int32) (σ2 : SS) (τ2 : SS), pX11_cost σ a1 a2 = some (r, σ2) ∧ pX12_cost τ a1 a2 = some (r, τ2) ∧ Rel σ2 τ2
def S_build (Rel : SS → SS → Prop) : Prop := ∀ (σ τ : SS) (a1 : Int32), Rel σ τ → ∃ (r : Int32) (σ2 : SS) (τ2 : SS), pX11_build σ a1 = some (r, σ2) ∧ pX12_build τ a1 = some (r, τ2) ∧ Rel σ2 τ2
def S_worth (Rel : SS → SS → Prop) : Prop := ∀ (σ τ : SS) (a1 a2 a3 : Int32), Rel σ τ → ∃ (r : Int32) (σ2 : SS) (τ2 : SS), pX11_worth σ a1 a2 a3 = some (r, σ2) ∧ pX12_worth τ a1 a2 a3 = some (r, τ2) ∧ Rel σ2 τ2
def S_rescue (Rel : SS → SS → Prop) : Prop := ∀ (σ τ : SS) (a1 : Int32), Rel σ τ → ∃ (r : Int32) (σ2 : SS) (τ2 : SS), pX11_rescue σ a1 = some (r, σ2) ∧ pX12_rescue τ a1 = some (r, τ2) ∧ Rel σ2 τ2
def S_shelf (Rel : SS → SS → Prop) : Prop := ∀ (σ τ : SS) (a1 a2 : Int32), Rel σ τ → ∃ (r : Int32) (σ2 : SS) (τ2 : SS), pX11_shelf σ a1 a2 = some (r, σ2) ∧ pX12_shelf τ a1 a2 = some (r, τ2) ∧ Rel σ2 τ2
def S_odds (Rel : SS → SS → Prop) : Prop := ∀ (σ τ : SS) (a1 a2 a3 : Int32), Rel σ τ → ∃ (r : Int32) (σ2 : SS) (τ2 : SS), pX11_odds σ a1 a2 a3 = some (r, σ2) ∧ pX12_odds τ a1 a2 a3 = some (r, τ2) ∧ Rel σ2 τ2
def S_seed (Rel : SS → SS → Prop) : Prop := ∀ (σ τ : SS) (a1 : Int32), Rel σ τ → ∃ (r : Int32) (σ2 : SS) (τ2 : SS), pX11_seed σ a1 = some (r, σ2) ∧ pX12_seed τ a1 = some (r, τ2) ∧ Rel σ2 τ2
def S_hold (Rel : SS → SS → Prop) : Prop := ∀ (σ τ : SS) (a1 a2 : Int32), Rel σ τ → ∃ (r : Int32) (σ2 : SS) (τ2 : SS), pX11_hold σ a1 a2 = some (r, σ2) ∧ pX12_hold τ a1 a2 = some (r, τ2) ∧ Rel σ2 τ2
def S_as (Rel : SS → SS → Prop) : Prop := ∀ (σ τ : SS) (a1 a2 : Int32), Rel σ τ → ∃ (r : Int32) (σ2 : SS) (τ2 : SS), pX11_as σ a1 a2 = some (r, σ2) ∧ pX12_as τ a1 a2 = some (r, τ2) ∧ Rel σ2 τ2
def S_sheet (Rel : SS → SS → Prop) : Prop := ∀ (σ τ : SS) (a1 a2 a3 : Int32), Rel σ τ → ∃ (r : Int32) (σ2 : SS) (τ2 : SS), pX11_sheet σ a1 a2 a3 = some (r, σ2) ∧ pX12_sheet τ a1 a2 a3 = some (r, τ2) ∧ Rel σ2 τ2
def S_write (Rel : SS → SS → Prop) : Prop := ∀ (σ τ : SS) (a1 a2 a3 : Int32), Rel σ τ → ∃ (r : Int32) (σ2 : SS) (τ2 : SS), pX11_write σ a1 a2 a3 = some (r, σ2) ∧ pX12_write τ a1 a2 a3 = some (r, τ2) ∧ Rel σ2 τ2
def S_copy (Rel : SS → SS → Prop) : Prop := ∀ (σ τ : SS) (a1 a2 a3 a4 a5 : Int32), Rel σ τ → ∃ (r : Int32) (σ2 : SS) (τ2 : SS), pX11_copy σ a1 a2 a3 a4 a5 = some (r, σ2) ∧ pX12_copy τ a1 a2 a3 a4 a5 = some (r, τ2) ∧ Rel σ2 τ2
def S_load (Rel : SS → SS → Prop) : Prop := ∀ (σ τ : SS) (a1 : Int32), Rel σ τ → ∃ (r : Int32) (σ2 : SS) (τ2 : SS), pX11_load σ a1 = some (r, σ2) ∧ pX12_load τ a1 = some (r, τ2) ∧ Rel σ2 τ2
def S_judge (Rel : SS → SS → Prop) : Prop := ∀ (σ τ : SS) (a1 : Int32), Rel σ τ → ∃ (r : Int32) (σ2 : SS) (τ2 : SS), pX11_judge σ a1 = some (r, σ2) ∧ pX12_judge τ a1 = some (r, τ2) ∧ Rel σ2 τ2
def S_image (Rel : SS → SS → Prop) : Prop := ∀ (σ τ : SS), Rel σ τ → ∃ (r : Int32) (σ2 : SS) (τ2 : SS), pX11_image σ = some (r, σ2) ∧ pX12_image τ = some (r, τ2) ∧ Rel σ2 τ2
def S_undo (Rel : SS → SS → Prop) : Prop := ∀ (σ τ : SS), Rel σ τ → ∃ (r : Int32) (σ2 : SS) (τ2 : SS), pX11_undo σ = some (r, σ2) ∧ pX12_undo τ = some (r, τ2) ∧ Rel σ2 τ2
def S_tear (Rel : SS → SS → Prop) : Prop := ∀ (σ τ : SS), Rel σ τ → ∃ (r : Int32) (σ2 : SS) (τ2 : SS), pX11_tear σ = some (r, σ2) ∧ pX12_tear τ = some (r, τ2) ∧ Rel σ2 τ2
def S_count (Rel : SS → SS → Prop) : Prop := ∀ (σ τ : SS) (a1 : Int32), Rel σ τ → ∃ (r : Int32) (σ2 : SS) (τ2 : SS), pX11_count σ a1 = some (r, σ2) ∧ pX12_count τ a1 = some (r, τ2) ∧ Rel σ2 τ2
def S_status (Rel : SS → SS → Prop) : Prop := ∀ (σ τ : SS) (a1 : Int32), Rel σ τ → ∃ (r : Int32) (σ2 : SS) (τ2 : SS), pX11_status σ a1 = some (r, σ2) ∧ pX12_status τ a1 = some (r, τ2) ∧ Rel σ2 τ2
def Sims (Rel : SS → SS → Prop) : Prop := S_water Rel ∧ S_waterOf Rel ∧ S_change Rel ∧ S_set Rel ∧ S_current Rel ∧ S_flap Rel ∧ S_minutes Rel ∧ S_now Rel ∧ S_renew Rel ∧ S_start Rel ∧ S_quickest Rel ∧ S_came Rel ∧ S_thing Rel ∧ S_thingOf Rel ∧ S_lift Rel ∧ S_down Rel ∧ S_harm Rel ∧ S_feed Rel ∧ S_wipe Rel ∧ S_sky Rel ∧ S_skyOf Rel ∧ S_play Rel ∧ S_ahead Rel ∧ S_under Rel ∧ S_reaches Rel ∧ S_bestOn Rel ∧ S_rateFor Rel ∧ S_batteryFor Rel ∧ S_cost Rel ∧ S_build Rel ∧ S_worth Rel ∧ S_rescue Rel ∧ S_shelf Rel ∧ S_odds Rel ∧ S_seed Rel ∧ S_hold Rel ∧ S_as Rel ∧ S_sheet Rel ∧ S_write Rel ∧ S_copy Rel ∧ S_load Rel ∧ S_judge Rel ∧ S_image Rel ∧ S_undo Rel ∧ S_tear Rel ∧ S_count Rel ∧ S_status Rel
def wL (cI cZ cS : ClassId) (ad bd : Nat → Nat) (σ τ : SS) : va_W := wX11 cI cZ cS ad σ ++ wX12 cI cZ cS bd τ
def isA : List Nat := [0, 1, 2, 3, 4, 5, 6, 7, 8, 9, 10, 11, 12, 13, 14, 15, 16, 17, 18, 19, 20, 21, 22, 23, 24, 25, 26, 27, 28, 29, 30, 31, 32, 33, 34, 35, 36, 37, 38, 39, 40, 41, 42, 43, 44, 45, 46, 47, 48, 49, 50, 51, 52, 53, 54, 55, 56, 57, 58, 59, 60, 61, 62, 63, 64, 65, 66, 67, 68, 69, 70, 71]
def isB : List Nat := [72, 73, 74, 75, 76, 77, 78, 79, 80, 81, 82, 83]
def plA : List (Option Nat) := [some 0, some 1, some 2, some 3, some 4, some 5, some 6, some 7, some 8, some 9, some 10, some 11, some 12, some 13, some 14, some 15, some 16, some 17, some 18, some 19, some 20, some 21, some 22, some 23, some 24, some 25, some 26, some 27, some 28, some 29, some 30, some 31, some 32, some 33, some 34, some 35, some 36, some 37, some 38, some 39, some 40, some 41, some 42, some 43, some 44, some 45, some 46, some 47, some 48, some 49, some 50, some 51, some 52, some 53, some 54, some 55, some 56, some 57, some 58, some 59, some 60, some 61, some 62, some 63, some 64, some 65, some 66, some 67, some 68, some 69, some 70, some 71, none, none, none, none, none, none, none, none, none, none, none, none]
def plB : List (Option Nat) := [none, none, none, none, none, none, none, none, none, none, none, none, none, none, none, none, none, none, none, none, none, none, none, none, none, none, none, none, none, none, none, none, none, none, none, none, none, none, none, none, none, none, none, none, none, none, none, none, none, none, none, none, none, none, none, none, none, none, none, none, none, none, none, none, none, none, none, none, none, none, none, none, some 0, some 1, some 2, some 3, some 4, some 5, some 6, some 7, some 8, some 9, some 10, some 11]
set_option maxRecDepth 100000 in
set_option maxHeartbeats 4000000 in
theorem inA (cI cZ cS : ClassId) (ad bd : Nat → Nat) (σ τ : SS) : isA.map (fun i => (wL cI cZ cS ad bd σ τ)[i]?) = (wX11 cI cZ cS ad σ).map some := rfl
set_option maxRecDepth 100000 in
set_option maxHeartbeats 4000000 in
theorem inB (cI cZ cS : ClassId) (ad bd : Nat → Nat) (σ τ : SS) : isB.map (fun i => (wL cI cZ cS ad bd σ τ)[i]?) = (wX12 cI cZ cS bd τ).map some := rfl
set_option maxRecDepth 100000 in
set_option maxHeartbeats 4000000 in
theorem mxA (cI cZ cS : ClassId) (ad bd : Nat → Nat) (σ τ : SS) (σ2 : SS) : q_mix (wL cI cZ cS ad bd σ τ) plA (wX11 cI cZ cS ad σ2) = wL cI cZ cS ad bd σ2 τ := rfl
set_option maxRecDepth 100000 in
set_option maxHeartbeats 4000000 in
theorem mxB (cI cZ cS : ClassId) (ad bd : Nat → Nat) (σ τ : SS) (τ2 : SS) : q_mix (wL cI cZ cS ad bd σ τ) plB (wX12 cI cZ cS bd τ2) = wL cI cZ cS ad bd σ τ2 := rfl
set_option maxRecDepth 100000 in
set_option maxHeartbeats 4000000 in
theorem adA (cI cZ cS : ClassId) (ad bd : Nat → Nat) (σ τ : SS) (σ2 : SS) : (wL cI cZ cS ad bd σ2 τ).map (fun q => q.1) = (wL cI cZ cS ad bd σ τ).map (fun q => q.1) := rfl
set_option maxRecDepth 100000 in
set_option maxHeartbeats 4000000 in
theorem adB (cI cZ cS : ClassId) (ad bd : Nat → Nat) (σ τ : SS) (τ2 : SS) : (wL cI cZ cS ad bd σ τ2).map (fun q => q.1) = (wL cI cZ cS ad bd σ τ).map (fun q => q.1) := rfl
theorem plA_ok : plA = (List.range plA.length).map (fun k => q_ix isA k) := by decide +kernel
theorem plB_ok : plB = (List.range plB.length).map (fun k => q_ix isB k) := by decide +kernel
abbrev lA (s : State) : Nat → Prop := fun q => s.heap.size ≤ q
/-- all that the walk knows -/
def LX (p : Program) (s : State) (m : MethodId) (meth : Method) (c : Code) (b Ln : Nat) (xs : Nat → Int32) (D : va_G) (cI cZ cS : ClassId) (zz : ZT) : Prop := p.tables.exec = Jvm.exec ∧ c.code = code ∧ c.maxLocals = 4 ∧ s.vm.findClass R_law = some m.cls ∧ (∀ w ∈ lw_tbl, w.before #[Value.ref b] s = true) ∧ va_K D vwCl (K3 cI cZ cS) s ∧ ZK zz (lA s) s s.heap ∧ va_X b Ln xs s s.heap ∧ b < s.heap.size ∧ meth.locks = false ∧ meth.sig.returnType = ret
section LW
variable {p : Program} {l : Launch} {e : Env} {s : State} {m : MethodId} {below : List Frame} {meth : Method} {c : Code} {b Ln : Nat} {xs : Nat → Int32} {D : va_G} {cI cZ cS : ClassId} {zz : ZT} {Rel : SS → SS → Prop}
set_option maxRecDepth 100000 in
set_option maxHeartbeats 4000000 in
theorem lc_water (C : LX p s m meth c b Ln xs D cI cZ cS zz) (hs : S_water Rel) (ad bd : Nat → Nat) (i : Nat) (x3 : Int32) (hi : ∀ k : Nat, k < 6 → vp_in (x3 + nI k) Ln ∧ (x3 + nI k).toNatClampNeg = i + k) (nx : ∀ (σ τ : SS) (H : Heap) (locs : List Loc) (ls : Array Slot), Rel σ τ → va_P D vwCl (wL cI cZ cS ad bd σ τ) H → va_D (lA s) (wL cI cZ cS ad bd σ τ) → va_S (lA s) s.heap H locs → lv_has ls 4 [(0, .ref b), (1, .ref (ad 0)), (2, .ref (bd 0)), (3, .int x3)] → W p l e room_1 s m #[Value.ref b] below meth c H locs 84 5639 (lw_Z below #[Value.ref b] s) (F0 m 1589 ls [])) (σ τ : SS) (H : Heap) (locs : List Loc) (ls : Array Slot) (hR : Rel σ τ) (hP : va_P D vwCl (wL cI cZ cS ad bd σ τ) H) (hD : va_D (lA s) (wL cI cZ cS ad bd σ τ)) (hS : va_S (lA s) s.heap H locs) (hl : lv_has ls 4 [(0, .ref b), (1, .ref (ad 0)), (2, .ref (bd 0)), (3, .int x3)]) : W p l e room_1 s m #[Value.ref b] below meth c H locs 84 5639 (lw_Z below #[Value.ref b] s) (F0 m 236 ls []) := by
  obtain ⟨hx, hb, hml, hown, hts, hK, hZ, hX, hbl, hlocks, hr⟩ := id C
  have hbA : ¬ lA s b := Nat.not_le.mpr hbl
  have hA : ∀ q, s.heap.size ≤ q → lA s q := fun _ h => h
  obtain ⟨r, σ2, τ2, h1, h2, hR2⟩ := hs σ τ (xs (i + 1)) (xs (i + 2)) (xs (i + 3)) hR
  have hf1 : q_ci (pX11_water σ (xs (i + 1)) (xs (i + 2)) (xs (i + 3))) (fun τ => τ) (fun x y => some (x, y)) = some (r, σ2) := by rw [h1]; rfl
  have hf2 : q_ci (pX12_water τ (xs (i + 1)) (xs (i + 2)) (xs (i + 3))) (fun τ => τ) (fun x y => some (x, y)) = some (r, τ2) := by rw [h2]; rfl
  refine lv_aload_n hx hb dL_law_236 rfl (lv_at hl 1 rfl) ?_
  refine lv_aload_n hx hb dL_law_237 rfl (lv_at hl 0 rfl) ?_
  refine lv_iload_n hx hb dL_law_238 rfl (lv_at hl 3 rfl) ?_
  refine lv_iconst (v := 1) hx hb dL_law_239 (by decide) ?_
  refine lv_iadd hx hb dL_law_240 ?_
  refine va_sld hx hb hX hbl hbA hS (hi 1 (by decide)).1 dL_law_241 ?_
  refine W.eq (g2 := F0 m 242 ls [.int (xs (i + 1)), .ref (ad 0)]) (congrArg (fun z => F0 m 242 ls (.int (xs z) :: [.ref (ad 0)])) (hi 1 (by decide)).2) ?_
  refine lv_aload_n hx hb dL_law_242 rfl (lv_at hl 0 rfl) ?_
  refine lv_iload_n hx hb dL_law_243 rfl (lv_at hl 3 rfl) ?_
  refine lv_iconst (v := 2) hx hb dL_law_244 (by decide) ?_
  refine lv_iadd hx hb dL_law_245 ?_
  refine va_sld hx hb hX hbl hbA hS (hi 2 (by decide)).1 dL_law_246 ?_
  refine W.eq (g2 := F0 m 247 ls [.int (xs (i + 2)), .int (xs (i + 1)), .ref (ad 0)]) (congrArg (fun z => F0 m 247 ls (.int (xs z) :: [.int (xs (i + 1)), .ref (ad 0)])) (hi 2 (by decide)).2) ?_
  refine lv_aload_n hx hb dL_law_247 rfl (lv_at hl 0 rfl) ?_
  refine lv_iload_n hx hb dL_law_248 rfl (lv_at hl 3 rfl) ?_
  refine lv_iconst (v := 3) hx hb dL_law_249 (by decide) ?_
  refine lv_iadd hx hb dL_law_250 ?_
  refine va_sld hx hb hX hbl hbA hS (hi 3 (by decide)).1 dL_law_251 ?_
  refine W.eq (g2 := F0 m 252 ls [.int (xs (i + 3)), .int (xs (i + 2)), .int (xs (i + 1)), .ref (ad 0)]) (congrArg (fun z => F0 m 252 ls (.int (xs z) :: [.int (xs (i + 2)), .int (xs (i + 1)), .ref (ad 0)])) (hi 3 (by decide)).2) ?_
  refine q_cVi (wf := (fun (z : SS) => wL cI cZ cS ad bd z τ)) (σ := σ) (wc := wX11 cI cZ cS ad) (σc := σ) (rest := []) ⟨hx, hb, hml, hown, hts⟩ hK hZ hA hP hD hS hf1 (fun x z ho => kX11_water l D cI cZ cS zz ad σ (xs (i + 1)) (xs (i + 2)) (xs (i + 3)) x z ho) (cwV 3 hts gl_X11_water rfl rfl rfl (by decide +kernel) ⟨Nat.le_of_ble_eq_true rfl, Nat.le_of_ble_eq_true rfl⟩) isA rfl (inA cI cZ cS ad bd σ τ) plA plA_ok (Nat.le_of_ble_eq_true rfl) (fun z => mxA cI cZ cS ad bd σ τ z) (fun _ => rfl) (fun z => adA cI cZ cS ad bd σ τ z) rfl rfl rfl rfl (hl.1) rfl (Nat.le_of_ble_eq_true rfl) dL_law_252 ⟨Nat.le_of_ble_eq_true rfl, Nat.le_of_ble_eq_true rfl⟩ (fun x z H locs hf hP hD hS => ?_)
  obtain ⟨hq1, hq2⟩ := Prod.mk.inj (Option.some.inj hf)
  rw [hq1]
  rw [hq2] at hP hD
  refine lv_aload_n hx hb dL_law_255 rfl (lv_at hl 2 rfl) ?_
  refine lv_aload_n hx hb dL_law_256 rfl (lv_at hl 0 rfl) ?_
  refine lv_iload_n hx hb dL_law_257 rfl (lv_at hl 3 rfl) ?_
  refine lv_iconst (v := 1) hx hb dL_law_258 (by decide) ?_
  refine lv_iadd hx hb dL_law_259 ?_
  refine va_sld hx hb hX hbl hbA hS (hi 1 (by decide)).1 dL_law_260 ?_
  refine W.eq (g2 := F0 m 261 ls [.int (xs (i + 1)), .ref (bd 0), .int r]) (congrArg (fun z => F0 m 261 ls (.int (xs z) :: [.ref (bd 0), .int r])) (hi 1 (by decide)).2) ?_
  refine lv_aload_n hx hb dL_law_261 rfl (lv_at hl 0 rfl) ?_
  refine lv_iload_n hx hb dL_law_262 rfl (lv_at hl 3 rfl) ?_
  refine lv_iconst (v := 2) hx hb dL_law_263 (by decide) ?_
  refine lv_iadd hx hb dL_law_264 ?_
  refine va_sld hx hb hX hbl hbA hS (hi 2 (by decide)).1 dL_law_265 ?_
  refine W.eq (g2 := F0 m 266 ls [.int (xs (i + 2)), .int (xs (i + 1)), .ref (bd 0), .int r]) (congrArg (fun z => F0 m 266 ls (.int (xs z) :: [.int (xs (i + 1)), .ref (bd 0), .int r])) (hi 2 (by decide)).2) ?_
  refine lv_aload_n hx hb dL_law_266 rfl (lv_at hl 0 rfl) ?_
  refine lv_iload_n hx hb dL_law_267 rfl (lv_at hl 3 rfl) ?_
  refine lv_iconst (v := 3) hx hb dL_law_268 (by decide) ?_
  refine lv_iadd hx hb dL_law_269 ?_
  refine va_sld hx hb hX hbl hbA hS (hi 3 (by decide)).1 dL_law_270 ?_
  refine W.eq (g2 := F0 m 271 ls [.int (xs (i + 3)), .int (xs (i + 2)), .int (xs (i + 1)), .ref (bd 0), .int r]) (congrArg (fun z => F0 m 271 ls (.int (xs z) :: [.int (xs (i + 2)), .int (xs (i + 1)), .ref (bd 0), .int r])) (hi 3 (by decide)).2) ?_
  refine q_cVi (wf := (fun (z : SS) => wL cI cZ cS ad bd σ2 z)) (σ := τ) (wc := wX12 cI cZ cS bd) (σc := τ) (rest := [.int r]) ⟨hx, hb, hml, hown, hts⟩ hK hZ hA hP hD hS hf2 (fun x z ho => kX12_water l D cI cZ cS zz bd τ (xs (i + 1)) (xs (i + 2)) (xs (i + 3)) x z ho) (cwV 3 hts gl_X12_water rfl rfl rfl (by decide +kernel) ⟨Nat.le_of_ble_eq_true rfl, Nat.le_of_ble_eq_true rfl⟩) isB rfl (inB cI cZ cS ad bd σ2 τ) plB plB_ok (Nat.le_of_ble_eq_true rfl) (fun z => mxB cI cZ cS ad bd σ2 τ z) (fun _ => rfl) (fun z => adB cI cZ cS ad bd σ2 τ z) rfl rfl rfl rfl (hl.1) rfl (Nat.le_of_ble_eq_true rfl) dL_law_271 ⟨Nat.le_of_ble_eq_true rfl, Nat.le_of_ble_eq_true rfl⟩ (fun x z H locs hf hP hD hS => ?_)
  obtain ⟨hq1, hq2⟩ := Prod.mk.inj (Option.some.inj hf)
  rw [hq1]
  rw [hq2] at hP hD
  refine lv_icmp_eq (tgt := 1589) hx hb dL_law_274 (by decide) (fun _ => ?_) (fun h => absurd rfl h)
  exact nx σ2 τ2 H locs ls hR2 hP hD hS hl
set_option maxRecDepth 100000 in
set_option maxHeartbeats 4000000 in
theorem lc_waterOf (C : LX p s m meth c b Ln xs D cI cZ cS zz) (hs : S_waterOf Rel) (ad bd : Nat → Nat) (i : Nat) (x3 : Int32) (hi : ∀ k : Nat, k < 6 → vp_in (x3 + nI k) Ln ∧ (x3 + nI k).toNatClampNeg = i + k) (nx : ∀ (σ τ : SS) (H : Heap) (locs : List Loc) (ls : Array Slot), Rel σ τ → va_P D vwCl (wL cI cZ cS ad bd σ τ) H → va_D (lA s) (wL cI cZ cS ad bd σ τ) → va_S (lA s) s.heap H locs → lv_has ls 4 [(0, .ref b), (1, .ref (ad 0)), (2, .ref (bd 0)), (3, .int x3)] → W p l e room_1 s m #[Value.ref b] below meth c H locs 84 5639 (lw_Z below #[Value.ref b] s) (F0 m 1589 ls [])) (σ τ : SS) (H : Heap) (locs : List Loc) (ls : Array Slot) (hR : Rel σ τ) (hP : va_P D vwCl (wL cI cZ cS ad bd σ τ) H) (hD : va_D (lA s) (wL cI cZ cS ad bd σ τ)) (hS : va_S (lA s) s.heap H locs) (hl : lv_has ls 4 [(0, .ref b), (1, .ref (ad 0)), (2, .ref (bd 0)), (3, .int x3)]) : W p l e room_1 s m #[Value.ref b] below meth c H locs 84 5639 (lw_Z below #[Value.ref b] s) (F0 m 279 ls []) := by
  obtain ⟨hx, hb, hml, hown, hts, hK, hZ, hX, hbl, hlocks, hr⟩ := id C
  have hbA : ¬ lA s b := Nat.not_le.mpr hbl
  have hA : ∀ q, s.heap.size ≤ q → lA s q := fun _ h => h
  obtain ⟨r, σ2, τ2, h1, h2, hR2⟩ := hs σ τ (xs (i + 1)) (xs (i + 2)) hR
  have hf1 : q_ci (pX11_waterOf σ (xs (i + 1)) (xs (i + 2))) (fun τ => τ) (fun x y => some (x, y)) = some (r, σ2) := by rw [h1]; rfl
  have hf2 : q_ci (pX12_waterOf τ (xs (i + 1)) (xs (i + 2))) (fun τ => τ) (fun x y => some (x, y)) = some (r, τ2) := by rw [h2]; rfl
  refine lv_aload_n hx hb dL_law_279 rfl (lv_at hl 1 rfl) ?_
  refine lv_aload_n hx hb dL_law_280 rfl (lv_at hl 0 rfl) ?_
  refine lv_iload_n hx hb dL_law_281 rfl (lv_at hl 3 rfl) ?_
  refine lv_iconst (v := 1) hx hb dL_law_282 (by decide) ?_
  refine lv_iadd hx hb dL_law_283 ?_
  refine va_sld hx hb hX hbl hbA hS (hi 1 (by decide)).1 dL_law_284 ?_
  refine W.eq (g2 := F0 m 285 ls [.int (xs (i + 1)), .ref (ad 0)]) (congrArg (fun z => F0 m 285 ls (.int (xs z) :: [.ref (ad 0)])) (hi 1 (by decide)).2) ?_
  refine lv_aload_n hx hb dL_law_285 rfl (lv_at hl 0 rfl) ?_
  refine lv_iload_n hx hb dL_law_286 rfl (lv_at hl 3 rfl) ?_
  refine lv_iconst (v := 2) hx hb dL_law_287 (by decide) ?_
  refine lv_iadd hx hb dL_law_288 ?_
  refine va_sld hx hb hX hbl hbA hS (hi 2 (by decide)).1 dL_law_289 ?_
  refine W.eq (g2 := F0 m 290 ls [.int (xs (i + 2)), .int (xs (i + 1)), .ref (ad 0)]) (congrArg (fun z => F0 m 290 ls (.int (xs z) :: [.int (xs (i + 1)), .ref (ad 0)])) (hi 2 (by decide)).2) ?_
  refine q_cVi (wf := (fun (z : SS) => wL cI cZ cS ad bd z τ)) (σ := σ) (wc := wX11 cI cZ cS ad) (σc := σ) (rest := []) ⟨hx, hb, hml, hown, hts⟩ hK hZ hA hP hD hS hf1 (fun x z ho => kX11_waterOf l D cI cZ cS zz ad σ (xs (i + 1)) (xs (i + 2)) x z ho) (cwV 2 hts gl_X11_waterOf rfl rfl rfl (by decide +kernel) ⟨Nat.le_of_ble_eq_true rfl, Nat.le_of_ble_eq_true rfl⟩) isA rfl (inA cI cZ cS ad bd σ τ) plA plA_ok (Nat.le_of_ble_eq_true rfl) (fun z => mxA cI cZ cS ad bd σ τ z) (fun _ => rfl) (fun z => adA cI cZ cS ad bd σ τ z) rfl rfl rfl rfl (hl.1) rfl (Nat.le_of_ble_eq_true rfl) dL_law_290 ⟨Nat.le_of_ble_eq_true rfl, Nat.le_of_ble_eq_true rfl⟩ (fun x z H locs hf hP hD hS => ?_)
  obtain ⟨hq1, hq2⟩ := Prod.mk.inj (Option.some.inj hf)
  rw [hq1]
  rw [hq2] at hP hD
  refine lv_aload_n hx hb dL_law_293 rfl (lv_at hl 2 rfl) ?_
  refine lv_aload_n hx hb dL_law_294 rfl (lv_at hl 0 rfl) ?_
  refine lv_iload_n hx hb dL_law_295 rfl (lv_at hl 3 rfl) ?_
  refine lv_iconst (v := 1) hx hb dL_law_296 (by decide) ?_
  refine lv_iadd hx hb dL_law_297 ?_
  refine va_sld hx hb hX hbl hbA hS (hi 1 (by decide)).1 dL_law_298 ?_
  refine W.eq (g2 := F0 m 299 ls [.int (xs (i + 1)), .ref (bd 0), .int r]) (congrArg (fun z => F0 m 299 ls (.int (xs z) :: [.ref (bd 0), .int r])) (hi 1 (by decide)).2) ?_
  refine lv_aload_n hx hb dL_law_299 rfl (lv_at hl 0 rfl) ?_
  refine lv_iload_n hx hb dL_law_300 rfl (lv_at hl 3 rfl) ?_
  refine lv_iconst (v := 2) hx hb dL_law_301 (by decide) ?_
  refine lv_iadd hx hb dL_law_302 ?_
  refine va_sld hx hb hX hbl hbA hS (hi 2 (by decide)).1 dL_law_303 ?_
  refine W.eq (g2 := F0 m 304 ls [.int (xs (i + 2)), .int (xs (i + 1)), .ref (bd 0), .int r]) (congrArg (fun z => F0 m 304 ls (.int (xs z) :: [.int (xs (i + 1)), .ref (bd 0), .int r])) (hi 2 (by decide)).2) ?_
  refine q_cVi (wf := (fun (z : SS) => wL cI cZ cS ad bd σ2 z)) (σ := τ) (wc := wX12 cI cZ cS bd) (σc := τ) (rest := [.int r]) ⟨hx, hb, hml, hown, hts⟩ hK hZ hA hP hD hS hf2 (fun x z ho => kX12_waterOf l D cI cZ cS zz bd τ (xs (i + 1)) (xs (i + 2)) x z ho) (cwV 2 hts gl_X12_waterOf rfl rfl rfl (by decide +kernel) ⟨Nat.le_of_ble_eq_true rfl, Nat.le_of_ble_eq_true rfl⟩) isB rfl (inB cI cZ cS ad bd σ2 τ) plB plB_ok (Nat.le_of_ble_eq_true rfl) (fun z => mxB cI cZ cS ad bd σ2 τ z) (fun _ => rfl) (fun z => adB cI cZ cS ad bd σ2 τ z) rfl rfl rfl rfl (hl.1) rfl (Nat.le_of_ble_eq_true rfl) dL_law_304 ⟨Nat.le_of_ble_eq_true rfl, Nat.le_of_ble_eq_true rfl⟩ (fun x z H locs hf hP hD hS => ?_)
  obtain ⟨hq1, hq2⟩ := Prod.mk.inj (Option.some.inj hf)
  rw [hq1]
  rw [hq2] at hP hD
  refine lv_icmp_eq (tgt := 1589) hx hb dL_law_307 (by decide) (fun _ => ?_) (fun h => absurd rfl h)
  exact nx σ2 τ2 H locs ls hR2 hP hD hS hl
set_option maxRecDepth 100000 in
set_option maxHeartbeats 4000000 in
theorem lc_change (C : LX p s m meth c b Ln xs D cI cZ cS zz) (hs : S_change Rel) (ad bd : Nat → Nat) (i : Nat) (x3 : Int32) (hi : ∀ k : Nat, k < 6 → vp_in (x3 + nI k) Ln ∧ (x3 + nI k).toNatClampNeg = i + k) (nx : ∀ (σ τ : SS) (H : Heap) (locs : List Loc) (ls : Array Slot), Rel σ τ → va_P D vwCl (wL cI cZ cS ad bd σ τ) H → va_D (lA s) (wL cI cZ cS ad bd σ τ) → va_S (lA s) s.heap H locs → lv_has ls 4 [(0, .ref b), (1, .ref (ad 0)), (2, .ref (bd 0)), (3, .int x3)] → W p l e room_1 s m #[Value.ref b] below meth c H locs 84 5639 (lw_Z below #[Value.ref b] s) (F0 m 1589 ls [])) (σ τ : SS) (H : Heap) (locs : List Loc) (ls : Array Slot) (hR : Rel σ τ) (hP : va_P D vwCl (wL cI cZ cS ad bd σ τ) H) (hD : va_D (lA s) (wL cI cZ cS ad bd σ τ)) (hS : va_S (lA s) s.heap H locs) (hl : lv_has ls 4 [(0, .ref b), (1, .ref (ad 0)), (2, .ref (bd 0)), (3, .int x3)]) : W p l e room_1 s m #[Value.ref b] below meth c H locs 84 5639 (lw_Z below #[Value.ref b] s) (F0 m 312 ls []) := by
  obtain ⟨hx, hb, hml, hown, hts, hK, hZ, hX, hbl, hlocks, hr⟩ := id C
  have hbA : ¬ lA s b := Nat.not_le.mpr hbl
  have hA : ∀ q, s.heap.size ≤ q → lA s q := fun _ h => h
  obtain ⟨r, σ2, τ2, h1, h2, hR2⟩ := hs σ τ (xs (i + 1)) (xs (i + 2)) (xs (i + 3)) hR
  have hf1 : q_ci (pX11_change σ (xs (i + 1)) (xs (i + 2)) (xs (i + 3))) (fun τ => τ) (fun x y => some (x, y)) = some (r, σ2) := by rw [h1]; rfl
  have hf2 : q_ci (pX12_change τ (xs (i + 1)) (xs (i + 2)) (xs (i + 3))) (fun τ => τ) (fun x y => some (x, y)) = some (r, τ2) := by rw [h2]; rfl
  refine lv_aload_n hx hb dL_law_312 rfl (lv_at hl 1 rfl) ?_
  refine lv_aload_n hx hb dL_law_313 rfl (lv_at hl 0 rfl) ?_
  refine lv_iload_n hx hb dL_law_314 rfl (lv_at hl 3 rfl) ?_
  refine lv_iconst (v := 1) hx hb dL_law_315 (by decide) ?_
  refine lv_iadd hx hb dL_law_316 ?_
  refine va_sld hx hb hX hbl hbA hS (hi 1 (by decide)).1 dL_law_317 ?_
  refine W.eq (g2 := F0 m 318 ls [.int (xs (i + 1)), .ref (ad 0)]) (congrArg (fun z => F0 m 318 ls (.int (xs z) :: [.ref (ad 0)])) (hi 1 (by decide)).2) ?_
  refine lv_aload_n hx hb dL_law_318 rfl (lv_at hl 0 rfl) ?_
  refine lv_iload_n hx hb dL_law_319 rfl (lv_at hl 3 rfl) ?_
  refine lv_iconst (v := 2) hx hb dL_law_320 (by decide) ?_
  refine lv_iadd hx hb dL_law_321 ?_
  refine va_sld hx hb hX hbl hbA hS (hi 2 (by decide)).1 dL_law_322 ?_
  refine W.eq (g2 := F0 m 323 ls [.int (xs (i + 2)), .int (xs (i + 1)), .ref (ad 0)]) (congrArg (fun z => F0 m 323 ls (.int (xs z) :: [.int (xs (i + 1)), .ref (ad 0)])) (hi 2 (by decide)).2) ?_
  refine lv_aload_n hx hb dL_law_323 rfl (lv_at hl 0 rfl) ?_
  refine lv_iload_n hx hb dL_law_324 rfl (lv_at hl 3 rfl) ?_
  refine lv_iconst (v := 3) hx hb dL_law_325 (by decide) ?_
  refine lv_iadd hx hb dL_law_326 ?_
  refine va_sld hx hb hX hbl hbA hS (hi 3 (by decide)).1 dL_law_327 ?_
  refine W.eq (g2 := F0 m 328 ls [.int (xs (i + 3)), .int (xs (i + 2)), .int (xs (i + 1)), .ref (ad 0)]) (congrArg (fun z => F0 m 328 ls (.int (xs z) :: [.int (xs (i + 2)), .int (xs (i + 1)), .ref (ad 0)])) (hi 3 (by decide)).2) ?_
  refine q_cVi (wf := (fun (z : SS) => wL cI cZ cS ad bd z τ)) (σ := σ) (wc := wX11 cI cZ cS ad) (σc := σ) (rest := []) ⟨hx, hb, hml, hown, hts⟩ hK hZ hA hP hD hS hf1 (fun x z ho => kX11_change l D cI cZ cS zz ad σ (xs (i + 1)) (xs (i + 2)) (xs (i + 3)) x z ho) (cwV 3 hts gl_X11_change rfl rfl rfl (by decide +kernel) ⟨Nat.le_of_ble_eq_true rfl, Nat.le_of_ble_eq_true rfl⟩) isA rfl (inA cI cZ cS ad bd σ τ) plA plA_ok (Nat.le_of_ble_eq_true rfl) (fun z => mxA cI cZ cS ad bd σ τ z) (fun _ => rfl) (fun z => adA cI cZ cS ad bd σ τ z) rfl rfl rfl rfl (hl.1) rfl (Nat.le_of_ble_eq_true rfl) dL_law_328 ⟨Nat.le_of_ble_eq_true rfl, Nat.le_of_ble_eq_true rfl⟩ (fun x z H locs hf hP hD hS => ?_)
  obtain ⟨hq1, hq2⟩ := Prod.mk.inj (Option.some.inj hf)
  rw [hq1]
  rw [hq2] at hP hD
  refine lv_aload_n hx hb dL_law_331 rfl (lv_at hl 2 rfl) ?_
  refine lv_aload_n hx hb dL_law_332 rfl (lv_at hl 0 rfl) ?_
  refine lv_iload_n hx hb dL_law_333 rfl (lv_at hl 3 rfl) ?_
  refine lv_iconst (v := 1) hx hb dL_law_334 (by decide) ?_
  refine lv_iadd hx hb dL_law_335 ?_
  refine va_sld hx hb hX hbl hbA hS (hi 1 (by decide)).1 dL_law_336 ?_
  refine W.eq (g2 := F0 m 337 ls [.int (xs (i + 1)), .ref (bd 0), .int r]) (congrArg (fun z => F0 m 337 ls (.int (xs z) :: [.ref (bd 0), .int r])) (hi 1 (by decide)).2) ?_
  refine lv_aload_n hx hb dL_law_337 rfl (lv_at hl 0 rfl) ?_
  refine lv_iload_n hx hb dL_law_338 rfl (lv_at hl 3 rfl) ?_
  refine lv_iconst (v := 2) hx hb dL_law_339 (by decide) ?_
  refine lv_iadd hx hb dL_law_340 ?_
  refine va_sld hx hb hX hbl hbA hS (hi 2 (by decide)).1 dL_law_341 ?_
  refine W.eq (g2 := F0 m 342 ls [.int (xs (i + 2)), .int (xs (i + 1)), .ref (bd 0), .int r]) (congrArg (fun z => F0 m 342 ls (.int (xs z) :: [.int (xs (i + 1)), .ref (bd 0), .int r])) (hi 2 (by decide)).2) ?_
  refine lv_aload_n hx hb dL_law_342 rfl (lv_at hl 0 rfl) ?_
  refine lv_iload_n hx hb dL_law_343 rfl (lv_at hl 3 rfl) ?_
  refine lv_iconst (v := 3) hx hb dL_law_344 (by decide) ?_
  refine lv_iadd hx hb dL_law_345 ?_
  refine va_sld hx hb hX hbl hbA hS (hi 3 (by decide)).1 dL_law_346 ?_
  refine W.eq (g2 := F0 m 347 ls [.int (xs (i + 3)), .int (xs (i + 2)), .int (xs (i + 1)), .ref (bd 0), .int r]) (congrArg (fun z => F0 m 347 ls (.int (xs z) :: [.int (xs (i + 2)), .int (xs (i + 1)), .ref (bd 0), .int r])) (hi 3 (by decide)).2) ?_
  refine q_cVi (wf := (fun (z : SS) => wL cI cZ cS ad bd σ2 z)) (σ := τ) (wc := wX12 cI cZ cS bd) (σc := τ) (rest := [.int r]) ⟨hx, hb, hml, hown, hts⟩ hK hZ hA hP hD hS hf2 (fun x z ho => kX12_change l D cI cZ cS zz bd τ (xs (i + 1)) (xs (i + 2)) (xs (i + 3)) x z ho) (cwV 3 hts gl_X12_change rfl rfl rfl (by decide +kernel) ⟨Nat.le_of_ble_eq_true rfl, Nat.le_of_ble_eq_true rfl⟩) isB rfl (inB cI cZ cS ad bd σ2 τ) plB plB_ok (Nat.le_of_ble_eq_true rfl) (fun z => mxB cI cZ cS ad bd σ2 τ z) (fun _ => rfl) (fun z => adB cI cZ cS ad bd σ2 τ z) rfl rfl rfl rfl (hl.1) rfl (Nat.le_of_ble_eq_true rfl) dL_law_347 ⟨Nat.le_of_ble_eq_true rfl, Nat.le_of_ble_eq_true rfl⟩ (fun x z H locs hf hP hD hS => ?_)
  obtain ⟨hq1, hq2⟩ := Prod.mk.inj (Option.some.inj hf)
  rw [hq1]
  rw [hq2] at hP hD
  refine lv_icmp_eq (tgt := 1589) hx hb dL_law_350 (by decide) (fun _ => ?_) (fun h => absurd rfl h)
  exact nx σ2 τ2 H locs ls hR2 hP hD hS hl
set_option maxRecDepth 100000 in
set_option maxHeartbeats 4000000 in
theorem lc_set (C : LX p s m meth c b Ln xs D cI cZ cS zz) (hs : S_set Rel) (ad bd : Nat → Nat) (i : Nat) (x3 : Int32) (hi : ∀ k : Nat, k < 6 → vp_in (x3 + nI k) Ln ∧ (x3 + nI k).toNatClampNeg = i + k) (nx : ∀ (σ τ : SS) (H : Heap) (locs : List Loc) (ls : Array Slot), Rel σ τ → va_P D vwCl (wL cI cZ cS ad bd σ τ) H → va_D (lA s) (wL cI cZ cS ad bd σ τ) → va_S (lA s) s.heap H locs → lv_has ls 4 [(0, .ref b), (1, .ref (ad 0)), (2, .ref (bd 0)), (3, .int x3)] → W p l e room_1 s m #[Value.ref b] below meth c H locs 84 5639 (lw_Z below #[Value.ref b] s) (F0 m 1589 ls [])) (σ τ : SS) (H : Heap) (locs : List Loc) (ls : Array Slot) (hR : Rel σ τ) (hP : va_P D vwCl (wL cI cZ cS ad bd σ τ) H) (hD : va_D (lA s) (wL cI cZ cS ad bd σ τ)) (hS : va_S (lA s) s.heap H locs) (hl : lv_has ls 4 [(0, .ref b), (1, .ref (ad 0)), (2, .ref (bd 0)), (3, .int x3)]) : W p l e room_1 s m #[Value.ref b] below meth c H locs 84 5639 (lw_Z below #[Value.ref b] s) (F0 m 355 ls []) := by
  obtain ⟨hx, hb, hml, hown, hts, hK, hZ, hX, hbl, hlocks, hr⟩ := id C
  have hbA : ¬ lA s b := Nat.not_le.mpr hbl
  have hA : ∀ q, s.heap.size ≤ q → lA s q := fun _ h => h
  obtain ⟨r, σ2, τ2, h1, h2, hR2⟩ := hs σ τ (xs (i + 1)) (xs (i + 2)) hR
  have hf1 : q_ci (pX11_set σ (xs (i + 1)) (xs (i + 2))) (fun τ => τ) (fun x y => some (x, y)) = some (r, σ2) := by rw [h1]; rfl
  have hf2 : q_ci (pX12_set τ (xs (i + 1)) (xs (i + 2))) (fun τ => τ) (fun x y => some (x, y)) = some (r, τ2) := by rw [h2]; rfl
  refine lv_aload_n hx hb dL_law_355 rfl (lv_at hl 1 rfl) ?_
  refine lv_aload_n hx hb dL_law_356 rfl (lv_at hl 0 rfl) ?_
  refine lv_iload_n hx hb dL_law_357 rfl (lv_at hl 3 rfl) ?_
  refine lv_iconst (v := 1) hx hb dL_law_358 (by decide) ?_
  refine lv_iadd hx hb dL_law_359 ?_
  refine va_sld hx hb hX hbl hbA hS (hi 1 (by decide)).1 dL_law_360 ?_
  refine W.eq (g2 := F0 m 361 ls [.int (xs (i + 1)), .ref (ad 0)]) (congrArg (fun z => F0 m 361 ls (.int (xs z) :: [.ref (ad 0)])) (hi 1 (by decide)).2) ?_
  refine lv_aload_n hx hb dL_law_361 rfl (lv_at hl 0 rfl) ?_
  refine lv_iload_n hx hb dL_law_362 rfl (lv_at hl 3 rfl) ?_
  refine lv_iconst (v := 2) hx hb dL_law_363 (by decide) ?_
  refine lv_iadd hx hb dL_law_364 ?_
  refine va_sld hx hb hX hbl hbA hS (hi 2 (by decide)).1 dL_law_365 ?_
  refine W.eq (g2 := F0 m 366 ls [.int (xs (i + 2)), .int (xs (i + 1)), .ref (ad 0)]) (congrArg (fun z => F0 m 366 ls (.int (xs z) :: [.int (xs (i + 1)), .ref (ad 0)])) (hi 2 (by decide)).2) ?_
  refine q_cVi (wf := (fun (z : SS) => wL cI cZ cS ad bd z τ)) (σ := σ) (wc := wX11 cI cZ cS ad) (σc := σ) (rest := []) ⟨hx, hb, hml, hown, hts⟩ hK hZ hA hP hD hS hf1 (fun x z ho => kX11_set l D cI cZ cS zz ad σ (xs (i + 1)) (xs (i + 2)) x z ho) (cwV 2 hts gl_X11_set rfl rfl rfl (by decide +kernel) ⟨Nat.le_of_ble_eq_true rfl, Nat.le_of_ble_eq_true rfl⟩) isA rfl (inA cI cZ cS ad bd σ τ) plA plA_ok (Nat.le_of_ble_eq_true rfl) (fun z => mxA cI cZ cS ad bd σ τ z) (fun _ => rfl) (fun z => adA cI cZ cS ad bd σ τ z) rfl rfl rfl rfl (hl.1) rfl (Nat.le_of_ble_eq_true rfl) dL_law_366 ⟨Nat.le_of_ble_eq_true rfl, Nat.le_of_ble_eq_true rfl⟩ (fun x z H locs hf hP hD hS => ?_)
  obtain ⟨hq1, hq2⟩ := Prod.mk.inj (Option.some.inj hf)
  rw [hq1]
  rw [hq2] at hP hD
  refine lv_aload_n hx hb dL_law_369 rfl (lv_at hl 2 rfl) ?_
  refine lv_aload_n hx hb dL_law_370 rfl (lv_at hl 0 rfl) ?_
  refine lv_iload_n hx hb dL_law_371 rfl (lv_at hl 3 rfl) ?_
  refine lv_iconst (v := 1) hx hb dL_law_372 (by decide) ?_
  refine lv_iadd hx hb dL_law_373 ?_
  refine va_sld hx hb hX hbl hbA hS (hi 1 (by decide)).1 dL_law_374 ?_
  refine W.eq (g2 := F0 m 375 ls [.int (xs (i + 1)), .ref (bd 0), .int r]) (congrArg (fun z => F0 m 375 ls (.int (xs z) :: [.ref (bd 0), .int r])) (hi 1 (by decide)).2) ?_
  refine lv_aload_n hx hb dL_law_375 rfl (lv_at hl 0 rfl) ?_
  refine lv_iload_n hx hb dL_law_376 rfl (lv_at hl 3 rfl) ?_
  refine lv_iconst (v := 2) hx hb dL_law_377 (by decide) ?_
  refine lv_iadd hx hb dL_law_378 ?_
  refine va_sld hx hb hX hbl hbA hS (hi 2 (by decide)).1 dL_law_379 ?_
  refine W.eq (g2 := F0 m 380 ls [.int (xs (i + 2)), .int (xs (i + 1)), .ref (bd 0), .int r]) (congrArg (fun z => F0 m 380 ls (.int (xs z) :: [.int (xs (i + 1)), .ref (bd 0), .int r])) (hi 2 (by decide)).2) ?_
  refine q_cVi (wf := (fun (z : SS) => wL cI cZ cS ad bd σ2 z)) (σ := τ) (wc := wX12 cI cZ cS bd) (σc := τ) (rest := [.int r]) ⟨hx, hb, hml, hown, hts⟩ hK hZ hA hP hD hS hf2 (fun x z ho => kX12_set l D cI cZ cS zz bd τ (xs (i + 1)) (xs (i + 2)) x z ho) (cwV 2 hts gl_X12_set rfl rfl rfl (by decide +kernel) ⟨Nat.le_of_ble_eq_true rfl, Nat.le_of_ble_eq_true rfl⟩) isB rfl (inB cI cZ cS ad bd σ2 τ) plB plB_ok (Nat.le_of_ble_eq_true rfl) (fun z => mxB cI cZ cS ad bd σ2 τ z) (fun _ => rfl) (fun z => adB cI cZ cS ad bd σ2 τ z) rfl rfl rfl rfl (hl.1) rfl (Nat.le_of_ble_eq_true rfl) dL_law_380 ⟨Nat.le_of_ble_eq_true rfl, Nat.le_of_ble_eq_true rfl⟩ (fun x z H locs hf hP hD hS => ?_)
  obtain ⟨hq1, hq2⟩ := Prod.mk.inj (Option.some.inj hf)
  rw [hq1]
  rw [hq2] at hP hD
  refine lv_icmp_eq (tgt := 1589) hx hb dL_law_383 (by decide) (fun _ => ?_) (fun h => absurd rfl h)
  exact nx σ2 τ2 H locs ls hR2 hP hD hS hl
set_option maxRecDepth 100000 in
set_option maxHeartbeats 4000000 in
theorem lc_current (C : LX p s m meth c b Ln xs D cI cZ cS zz) (hs : S_current Rel) (ad bd : Nat → Nat) (i : Nat) (x3 : Int32) (hi : ∀ k : Nat, k < 6 → vp_in (x3 + nI k) Ln ∧ (x3 + nI k).toNatClampNeg = i + k) (nx : ∀ (σ τ : SS) (H : Heap) (locs : List Loc) (ls : Array Slot), Rel σ τ → va_P D vwCl (wL cI cZ cS ad bd σ τ) H → va_D (lA s) (wL cI cZ cS ad bd σ τ) → va_S (lA s) s.heap H locs → lv_has ls 4 [(0, .ref b), (1, .ref (ad 0)), (2, .ref (bd 0)), (3, .int x3)] → W p l e room_1 s m #[Value.ref b] below meth c H locs 84 5639 (lw_Z below #[Value.ref b] s) (F0 m 1589 ls [])) (σ τ : SS) (H : Heap) (locs : List Loc) (ls : Array Slot) (hR : Rel σ τ) (hP : va_P D vwCl (wL cI cZ cS ad bd σ τ) H) (hD : va_D (lA s) (wL cI cZ cS ad bd σ τ)) (hS : va_S (lA s) s.heap H locs) (hl : lv_has ls 4 [(0, .ref b), (1, .ref (ad 0)), (2, .ref (bd 0)), (3, .int x3)]) : W p l e room_1 s m #[Value.ref b] below meth c H locs 84 5639 (lw_Z below #[Value.ref b] s) (F0 m 388 ls []) := by
  obtain ⟨hx, hb, hml, hown, hts, hK, hZ, hX, hbl, hlocks, hr⟩ := id C
  have hbA : ¬ lA s b := Nat.not_le.mpr hbl
  have hA : ∀ q, s.heap.size ≤ q → lA s q := fun _ h => h
  have fin : ∀ (zb : Int32), (zb = 0 ∨ zb = 1) → (xs (i + 1) = 0 → zb = 0) → (¬ xs (i + 1) = 0 → zb = 1) → W p l e room_1 s m #[Value.ref b] below meth c H locs 84 5639 (lw_Z below #[Value.ref b] s) (F0 m 388 ls []) := by
    intro zb hz hz0 hz1
    obtain ⟨r, σ2, τ2, h1, h2, hR2⟩ := hs σ τ zb hz hR
    have hf1 : q_ci (pX11_current σ zb) (fun τ => τ) (fun x y => some (x, y)) = some (r, σ2) := by rw [h1]; rfl
    have hf2 : q_ci (pX12_current τ zb) (fun τ => τ) (fun x y => some (x, y)) = some (r, τ2) := by rw [h2]; rfl
    refine lv_aload_n hx hb dL_law_388 rfl (lv_at hl 1 rfl) ?_
    refine lv_aload_n hx hb dL_law_389 rfl (lv_at hl 0 rfl) ?_
    refine lv_iload_n hx hb dL_law_390 rfl (lv_at hl 3 rfl) ?_
    refine lv_iconst (v := 1) hx hb dL_law_391 (by decide) ?_
    refine lv_iadd hx hb dL_law_392 ?_
    refine va_sld hx hb hX hbl hbA hS (hi 1 (by decide)).1 dL_law_393 ?_
    refine W.eq (g2 := F0 m 394 ls [.int (xs (i + 1)), .ref (ad 0)]) (congrArg (fun z => F0 m 394 ls (.int (xs z) :: [.ref (ad 0)])) (hi 1 (by decide)).2) ?_
    refine (show W p l e room_1 s m #[Value.ref b] below meth c H locs 84 5639 (lw_Z below #[Value.ref b] s) (F0 m 402 ls [.int zb, .ref (ad 0)]) → _ from fun hz9 => ?_) ?_
    · refine lv_if_eq (tgt := 401) hx hb dL_law_394 (by decide) (fun h => ?_) (fun h => ?_)
      · refine lv_iconst (v := 0) hx hb dL_law_401 (by decide) ?_
        rw [hz0 h] at hz9
        exact hz9
      · refine lv_iconst (v := 1) hx hb dL_law_397 (by decide) ?_
        refine lv_goto (tgt := 402) hx hb dL_law_398 (by decide) ?_
        rw [hz1 h] at hz9
        exact hz9
    refine q_cVi (wf := (fun (z : SS) => wL cI cZ cS ad bd z τ)) (σ := σ) (wc := wX11 cI cZ cS ad) (σc := σ) (rest := []) ⟨hx, hb, hml, hown, hts⟩ hK hZ hA hP hD hS hf1 (fun x z ho => kX11_current l D cI cZ cS zz ad σ zb x z ho) (cwV 1 hts gl_X11_current rfl rfl rfl (by decide +kernel) ⟨Nat.le_of_ble_eq_true rfl, Nat.le_of_ble_eq_true rfl⟩) isA rfl (inA cI cZ cS ad bd σ τ) plA plA_ok (Nat.le_of_ble_eq_true rfl) (fun z => mxA cI cZ cS ad bd σ τ z) (fun _ => rfl) (fun z => adA cI cZ cS ad bd σ τ z) rfl rfl rfl rfl (hl.1) rfl (Nat.le_of_ble_eq_true rfl) dL_law_402 ⟨Nat.le_of_ble_eq_true rfl, Nat.le_of_ble_eq_true rfl⟩ (fun x z H locs hf hP hD hS => ?_)
    obtain ⟨hq1, hq2⟩ := Prod.mk.inj (Option.some.inj hf)
    rw [hq1]
    rw [hq2] at hP hD
    refine lv_aload_n hx hb dL_law_405 rfl (lv_at hl 2 rfl) ?_
    refine lv_aload_n hx hb dL_law_406 rfl (lv_at hl 0 rfl) ?_
    refine lv_iload_n hx hb dL_law_407 rfl (lv_at hl 3 rfl) ?_
    refine lv_iconst (v := 1) hx hb dL_law_408 (by decide) ?_
    refine lv_iadd hx hb dL_law_409 ?_
    refine va_sld hx hb hX hbl hbA hS (hi 1 (by decide)).1 dL_law_410 ?_
    refine W.eq (g2 := F0 m 411 ls [.int (xs (i + 1)), .ref (bd 0), .int r]) (congrArg (fun z => F0 m 411 ls (.int (xs z) :: [.ref (bd 0), .int r])) (hi 1 (by decide)).2) ?_
    refine (show W p l e room_1 s m #[Value.ref b] below meth c H locs 84 5639 (lw_Z below #[Value.ref b] s) (F0 m 419 ls [.int zb, .ref (bd 0), .int r]) → _ from fun hz9 => ?_) ?_
    · refine lv_if_eq (tgt := 418) hx hb dL_law_411 (by decide) (fun h => ?_) (fun h => ?_)
      · refine lv_iconst (v := 0) hx hb dL_law_418 (by decide) ?_
        rw [hz0 h] at hz9
        exact hz9
      · refine lv_iconst (v := 1) hx hb dL_law_414 (by decide) ?_
        refine lv_goto (tgt := 419) hx hb dL_law_415 (by decide) ?_
        rw [hz1 h] at hz9
        exact hz9
    refine q_cVi (wf := (fun (z : SS) => wL cI cZ cS ad bd σ2 z)) (σ := τ) (wc := wX12 cI cZ cS bd) (σc := τ) (rest := [.int r]) ⟨hx, hb, hml, hown, hts⟩ hK hZ hA hP hD hS hf2 (fun x z ho => kX12_current l D cI cZ cS zz bd τ zb x z ho) (cwV 1 hts gl_X12_current rfl rfl rfl (by decide +kernel) ⟨Nat.le_of_ble_eq_true rfl, Nat.le_of_ble_eq_true rfl⟩) isB rfl (inB cI cZ cS ad bd σ2 τ) plB plB_ok (Nat.le_of_ble_eq_true rfl) (fun z => mxB cI cZ cS ad bd σ2 τ z) (fun _ => rfl) (fun z => adB cI cZ cS ad bd σ2 τ z) rfl rfl rfl rfl (hl.1) rfl (Nat.le_of_ble_eq_true rfl) dL_law_419 ⟨Nat.le_of_ble_eq_true rfl, Nat.le_of_ble_eq_true rfl⟩ (fun x z H locs hf hP hD hS => ?_)
    obtain ⟨hq1, hq2⟩ := Prod.mk.inj (Option.some.inj hf)
    rw [hq1]
    rw [hq2] at hP hD
    refine lv_icmp_eq (tgt := 1589) hx hb dL_law_422 (by decide) (fun _ => ?_) (fun h => absurd rfl h)
    exact nx σ2 τ2 H locs ls hR2 hP hD hS hl
  by_cases h0 : xs (i + 1) = 0
  · exact fin 0 (Or.inl rfl) (fun _ => rfl) (fun h => absurd h0 h)
  · exact fin 1 (Or.inr rfl) (fun h => absurd h h0) (fun _ => rfl)
set_option maxRecDepth 100000 in
set_option maxHeartbeats 4000000 in
theorem lc_flap (C : LX p s m meth c b Ln xs D cI cZ cS zz) (hs : S_flap Rel) (ad bd : Nat → Nat) (i : Nat) (x3 : Int32) (hi : ∀ k : Nat, k < 6 → vp_in (x3 + nI k) Ln ∧ (x3 + nI k).toNatClampNeg = i + k) (nx : ∀ (σ τ : SS) (H : Heap) (locs : List Loc) (ls : Array Slot), Rel σ τ → va_P D vwCl (wL cI cZ cS ad bd σ τ) H → va_D (lA s) (wL cI cZ cS ad bd σ τ) → va_S (lA s) s.heap H locs → lv_has ls 4 [(0, .ref b), (1, .ref (ad 0)), (2, .ref (bd 0)), (3, .int x3)] → W p l e room_1 s m #[Value.ref b] below meth c H locs 84 5639 (lw_Z below #[Value.ref b] s) (F0 m 1589 ls [])) (σ τ : SS) (H : Heap) (locs : List Loc) (ls : Array Slot) (hR : Rel σ τ) (hP : va_P D vwCl (wL cI cZ cS ad bd σ τ) H) (hD : va_D (lA s) (wL cI cZ cS ad bd σ τ)) (hS : va_S (lA s) s.heap H locs) (hl : lv_has ls 4 [(0, .ref b), (1, .ref (ad 0)), (2, .ref (bd 0)), (3, .int x3)]) : W p l e room_1 s m #[Value.ref b] below meth c H locs 84 5639 (lw_Z below #[Value.ref b] s) (F0 m 427 ls []) := by
  obtain ⟨hx, hb, hml, hown, hts, hK, hZ, hX, hbl, hlocks, hr⟩ := id C
  have hbA : ¬ lA s b := Nat.not_le.mpr hbl
  have hA : ∀ q, s.heap.size ≤ q → lA s q := fun _ h => h
  have fin : ∀ (zb : Int32), (zb = 0 ∨ zb = 1) → (xs (i + 1) = 0 → zb = 0) → (¬ xs (i + 1) = 0 → zb = 1) → W p l e room_1 s m #[Value.ref b] below meth c H locs 84 5639 (lw_Z below #[Value.ref b] s) (F0 m 427 ls []) := by
    intro zb hz hz0 hz1
    obtain ⟨r, σ2, τ2, h1, h2, hR2⟩ := hs σ τ zb hz hR
    have hf1 : q_ci (pX11_flap σ zb) (fun τ => τ) (fun x y => some (x, y)) = some (r, σ2) := by rw [h1]; rfl
    have hf2 : q_ci (pX12_flap τ zb) (fun τ => τ) (fun x y => some (x, y)) = some (r, τ2) := by rw [h2]; rfl
    refine lv_aload_n hx hb dL_law_427 rfl (lv_at hl 1 rfl) ?_
    refine lv_aload_n hx hb dL_law_428 rfl (lv_at hl 0 rfl) ?_
    refine lv_iload_n hx hb dL_law_429 rfl (lv_at hl 3 rfl) ?_
    refine lv_iconst (v := 1) hx hb dL_law_430 (by decide) ?_
    refine lv_iadd hx hb dL_law_431 ?_
    refine va_sld hx hb hX hbl hbA hS (hi 1 (by decide)).1 dL_law_432 ?_
    refine W.eq (g2 := F0 m 433 ls [.int (xs (i + 1)), .ref (ad 0)]) (congrArg (fun z => F0 m 433 ls (.int (xs z) :: [.ref (ad 0)])) (hi 1 (by decide)).2) ?_
    refine (show W p l e room_1 s m #[Value.ref b] below meth c H locs 84 5639 (lw_Z below #[Value.ref b] s) (F0 m 441 ls [.int zb, .ref (ad 0)]) → _ from fun hz9 => ?_) ?_
    · refine lv_if_eq (tgt := 440) hx hb dL_law_433 (by decide) (fun h => ?_) (fun h => ?_)
      · refine lv_iconst (v := 0) hx hb dL_law_440 (by decide) ?_
        rw [hz0 h] at hz9
        exact hz9
      · refine lv_iconst (v := 1) hx hb dL_law_436 (by decide) ?_
        refine lv_goto (tgt := 441) hx hb dL_law_437 (by decide) ?_
        rw [hz1 h] at hz9
        exact hz9
    refine q_cVi (wf := (fun (z : SS) => wL cI cZ cS ad bd z τ)) (σ := σ) (wc := wX11 cI cZ cS ad) (σc := σ) (rest := []) ⟨hx, hb, hml, hown, hts⟩ hK hZ hA hP hD hS hf1 (fun x z ho => kX11_flap l D cI cZ cS zz ad σ zb x z ho) (cwV 1 hts gl_X11_flap rfl rfl rfl (by decide +kernel) ⟨Nat.le_of_ble_eq_true rfl, Nat.le_of_ble_eq_true rfl⟩) isA rfl (inA cI cZ cS ad bd σ τ) plA plA_ok (Nat.le_of_ble_eq_true rfl) (fun z => mxA cI cZ cS ad bd σ τ z) (fun _ => rfl) (fun z => adA cI cZ cS ad bd σ τ z) rfl rfl rfl rfl (hl.1) rfl (Nat.le_of_ble_eq_true rfl) dL_law_441 ⟨Nat.le_of_ble_eq_true rfl, Nat.le_of_ble_eq_true rfl⟩ (fun x z H locs hf hP hD hS => ?_)
    obtain ⟨hq1, hq2⟩ := Prod.mk.inj (Option.some.inj hf)
    rw [hq1]
    rw [hq2] at hP hD
    refine lv_aload_n hx hb dL_law_444 rfl (lv_at hl 2 rfl) ?_
    refine lv_aload_n hx hb dL_law_445 rfl (lv_at hl 0 rfl) ?_
    refine lv_iload_n hx hb dL_law_446 rfl (lv_at hl 3 rfl) ?_
    refine lv_iconst (v := 1) hx hb dL_law_447 (by decide) ?_
    refine lv_iadd hx hb dL_law_448 ?_
    refine va_sld hx hb hX hbl hbA hS (hi 1 (by decide)).1 dL_law_449 ?_
    refine W.eq (g2 := F0 m 450 ls [.int (xs (i + 1)), .ref (bd 0), .int r]) (congrArg (fun z => F0 m 450 ls (.int (xs z) :: [.ref (bd 0), .int r])) (hi 1 (by decide)).2) ?_
    refine (show W p l e room_1 s m #[Value.ref b] below meth c H locs 84 5639 (lw_Z below #[Value.ref b] s) (F0 m 458 ls [.int zb, .ref (bd 0), .int r]) → _ from fun hz9 => ?_) ?_
    · refine lv_if_eq (tgt := 457) hx hb dL_law_450 (by decide) (fun h => ?_) (fun h => ?_)
      · refine lv_iconst (v := 0) hx hb dL_law_457 (by decide) ?_
        rw [hz0 h] at hz9
        exact hz9
      · refine lv_iconst (v := 1) hx hb dL_law_453 (by decide) ?_
        refine lv_goto (tgt := 458) hx hb dL_law_454 (by decide) ?_
        rw [hz1 h] at hz9
        exact hz9
    refine q_cVi (wf := (fun (z : SS) => wL cI cZ cS ad bd σ2 z)) (σ := τ) (wc := wX12 cI cZ cS bd) (σc := τ) (rest := [.int r]) ⟨hx, hb, hml, hown, hts⟩ hK hZ hA hP hD hS hf2 (fun x z ho => kX12_flap l D cI cZ cS zz bd τ zb x z ho) (cwV 1 hts gl_X12_flap rfl rfl rfl (by decide +kernel) ⟨Nat.le_of_ble_eq_true rfl, Nat.le_of_ble_eq_true rfl⟩) isB rfl (inB cI cZ cS ad bd σ2 τ) plB plB_ok (Nat.le_of_ble_eq_true rfl) (fun z => mxB cI cZ cS ad bd σ2 τ z) (fun _ => rfl) (fun z => adB cI cZ cS ad bd σ2 τ z) rfl rfl rfl rfl (hl.1) rfl (Nat.le_of_ble_eq_true rfl) dL_law_458 ⟨Nat.le_of_ble_eq_true rfl, Nat.le_of_ble_eq_true rfl⟩ (fun x z H locs hf hP hD hS => ?_)
    obtain ⟨hq1, hq2⟩ := Prod.mk.inj (Option.some.inj hf)
    rw [hq1]
    rw [hq2] at hP hD
    refine lv_icmp_eq (tgt := 1589) hx hb dL_law_461 (by decide) (fun _ => ?_) (fun h => absurd rfl h)
    exact nx σ2 τ2 H locs ls hR2 hP hD hS hl
  by_cases h0 : xs (i + 1) = 0
  · exact fin 0 (Or.inl rfl) (fun _ => rfl) (fun h => absurd h0 h)
  · exact fin 1 (Or.inr rfl) (fun h => absurd h h0) (fun _ => rfl)
set_option maxRecDepth 100000 in
set_option maxHeartbeats 4000000 in
theorem lc_minutes (C : LX p s m meth c b Ln xs D cI cZ cS zz) (hs : S_minutes Rel) (ad bd : Nat → Nat) (i : Nat) (x3 : Int32) (hi : ∀ k : Nat, k < 6 → vp_in (x3 + nI k) Ln ∧ (x3 + nI k).toNatClampNeg = i + k) (nx : ∀ (σ τ : SS) (H : Heap) (locs : List Loc) (ls : Array Slot), Rel σ τ → va_P D vwCl (wL cI cZ cS ad bd σ τ) H → va_D (lA s) (wL cI cZ cS ad bd σ τ) → va_S (lA s) s.heap H locs → lv_has ls 4 [(0, .ref b), (1, .ref (ad 0)), (2, .ref (bd 0)), (3, .int x3)] → W p l e room_1 s m #[Value.ref b] below meth c H locs 84 5639 (lw_Z below #[Value.ref b] s) (F0 m 1589 ls [])) (σ τ : SS) (H : Heap) (locs : List Loc) (ls : Array Slot) (hR : Rel σ τ) (hP : va_P D vwCl (wL cI cZ cS ad bd σ τ) H) (hD : va_D (lA s) (wL cI cZ cS ad bd σ τ)) (hS : va_S (lA s) s.heap H locs) (hl : lv_has ls 4 [(0, .ref b), (1, .ref (ad 0)), (2, .ref (bd 0)), (3, .int x3)]) : W p l e room_1 s m #[Value.ref b] below meth c H locs 84 5639 (lw_Z below #[Value.ref b] s) (F0 m 466 ls []) := by
  obtain ⟨hx, hb, hml, hown, hts, hK, hZ, hX, hbl, hlocks, hr⟩ := id C
  have hbA : ¬ lA s b := Nat.not_le.mpr hbl
  have hA : ∀ q, s.heap.size ≤ q → lA s q := fun _ h => h
  obtain ⟨r, σ2, τ2, h1, h2, hR2⟩ := hs σ τ (xs (i + 1)) hR
  have hf1 : q_ci (pX11_minutes σ (xs (i + 1))) (fun τ => τ) (fun x y => some (x, y)) = some (r, σ2) := by rw [h1]; rfl
  have hf2 : q_ci (pX12_minutes τ (xs (i + 1))) (fun τ => τ) (fun x y => some (x, y)) = some (r, τ2) := by rw [h2]; rfl
  refine lv_aload_n hx hb dL_law_466 rfl (lv_at hl 1 rfl) ?_
  refine lv_aload_n hx hb dL_law_467 rfl (lv_at hl 0 rfl) ?_
  refine lv_iload_n hx hb dL_law_468 rfl (lv_at hl 3 rfl) ?_
  refine lv_iconst (v := 1) hx hb dL_law_469 (by decide) ?_
  refine lv_iadd hx hb dL_law_470 ?_
  refine va_sld hx hb hX hbl hbA hS (hi 1 (by decide)).1 dL_law_471 ?_
  refine W.eq (g2 := F0 m 472 ls [.int (xs (i + 1)), .ref (ad 0)]) (congrArg (fun z => F0 m 472 ls (.int (xs z) :: [.ref (ad 0)])) (hi 1 (by decide)).2) ?_
  refine q_cVi (wf := (fun (z : SS) => wL cI cZ cS ad bd z τ)) (σ := σ) (wc := wX11 cI cZ cS ad) (σc := σ) (rest := []) ⟨hx, hb, hml, hown, hts⟩ hK hZ hA hP hD hS hf1 (fun x z ho => kX11_minutes l D cI cZ cS zz ad σ (xs (i + 1)) x z ho) (cwV 1 hts gl_X11_minutes rfl rfl rfl (by decide +kernel) ⟨Nat.le_of_ble_eq_true rfl, Nat.le_of_ble_eq_true rfl⟩) isA rfl (inA cI cZ cS ad bd σ τ) plA plA_ok (Nat.le_of_ble_eq_true rfl) (fun z => mxA cI cZ cS ad bd σ τ z) (fun _ => rfl) (fun z => adA cI cZ cS ad bd σ τ z) rfl rfl rfl rfl (hl.1) rfl (Nat.le_of_ble_eq_true rfl) dL_law_472 ⟨Nat.le_of_ble_eq_true rfl, Nat.le_of_ble_eq_true rfl⟩ (fun x z H locs hf hP hD hS => ?_)
  obtain ⟨hq1, hq2⟩ := Prod.mk.inj (Option.some.inj hf)
  rw [hq1]
  rw [hq2] at hP hD
  refine lv_aload_n hx hb dL_law_475 rfl (lv_at hl 2 rfl) ?_
  refine lv_aload_n hx hb dL_law_476 rfl (lv_at hl 0 rfl) ?_
  refine lv_iload_n hx hb dL_law_477 rfl (lv_at hl 3 rfl) ?_
  refine lv_iconst (v := 1) hx hb dL_law_478 (by decide) ?_
  refine lv_iadd hx hb dL_law_479 ?_
  refine va_sld hx hb hX hbl hbA hS (hi 1 (by decide)).1 dL_law_480 ?_
  refine W.eq (g2 := F0 m 481 ls [.int (xs (i + 1)), .ref (bd 0), .int r]) (congrArg (fun z => F0 m 481 ls (.int (xs z) :: [.ref (bd 0), .int r])) (hi 1 (by decide)).2) ?_
  refine q_cVi (wf := (fun (z : SS) => wL cI cZ cS ad bd σ2 z)) (σ := τ) (wc := wX12 cI cZ cS bd) (σc := τ) (rest := [.int r]) ⟨hx, hb, hml, hown, hts⟩ hK hZ hA hP hD hS hf2 (fun x z ho => kX12_minutes l D cI cZ cS zz bd τ (xs (i + 1)) x z ho) (cwV 1 hts gl_X12_minutes rfl rfl rfl (by decide +kernel) ⟨Nat.le_of_ble_eq_true rfl, Nat.le_of_ble_eq_true rfl⟩) isB rfl (inB cI cZ cS ad bd σ2 τ) plB plB_ok (Nat.le_of_ble_eq_true rfl) (fun z => mxB cI cZ cS ad bd σ2 τ z) (fun _ => rfl) (fun z => adB cI cZ cS ad bd σ2 τ z) rfl rfl rfl rfl (hl.1) rfl (Nat.le_of_ble_eq_true rfl) dL_law_481 ⟨Nat.le_of_ble_eq_true rfl, Nat.le_of_ble_eq_true rfl⟩ (fun x z H locs hf hP hD hS => ?_)
  obtain ⟨hq1, hq2⟩ := Prod.mk.inj (Option.some.inj hf)
  rw [hq1]
  rw [hq2] at hP hD
  refine lv_icmp_eq (tgt := 1589) hx hb dL_law_484 (by decide) (fun _ => ?_) (fun h => absurd rfl h)
  exact nx σ2 τ2 H locs ls hR2 hP hD hS hl
set_option maxRecDepth 100000 in
set_option maxHeartbeats 4000000 in
theorem lc_now (C : LX p s m meth c b Ln xs D cI cZ cS zz) (hs : S_now Rel) (ad bd : Nat → Nat) (i : Nat) (x3 : Int32) (hi : ∀ k : Nat, k < 6 → vp_in (x3 + nI k) Ln ∧ (x3 + nI k).toNatClampNeg = i + k) (nx : ∀ (σ τ : SS) (H : Heap) (locs : List Loc) (ls : Array Slot), Rel σ τ → va_P D vwCl (wL cI cZ cS ad bd σ τ) H → va_D (lA s) (wL cI cZ cS ad bd σ τ) → va_S (lA s) s.heap H locs → lv_has ls 4 [(0, .ref b), (1, .ref (ad 0)), (2, .ref (bd 0)), (3, .int x3)] → W p l e room_1 s m #[Value.ref b] below meth c H locs 84 5639 (lw_Z below #[Value.ref b] s) (F0 m 1589 ls [])) (σ τ : SS) (H : Heap) (locs : List Loc) (ls : Array Slot) (hR : Rel σ τ) (hP : va_P D vwCl (wL cI cZ cS ad bd σ τ) H) (hD : va_D (lA s) (wL cI cZ cS ad bd σ τ)) (hS : va_S (lA s) s.heap H locs) (hl : lv_has ls 4 [(0, .ref b), (1, .ref (ad 0)), (2, .ref (bd 0)), (3, .int x3)]) : W p l e room_1 s m #[Value.ref b] below meth c H locs 84 5639 (lw_Z below #[Value.ref b] s) (F0 m 489 ls []) := by
  obtain ⟨hx, hb, hml, hown, hts, hK, hZ, hX, hbl, hlocks, hr⟩ := id C
  have hbA : ¬ lA s b := Nat.not_le.mpr hbl
  have hA : ∀ q, s.heap.size ≤ q → lA s q := fun _ h => h
  obtain ⟨r, σ2, τ2, h1, h2, hR2⟩ := hs σ τ (xs (i + 1)) hR
  have hf1 : q_ci (pX11_now σ (xs (i + 1))) (fun τ => τ) (fun x y => some (x, y)) = some (r, σ2) := by rw [h1]; rfl
  have hf2 : q_ci (pX12_now τ (xs (i + 1))) (fun τ => τ) (fun x y => some (x, y)) = some (r, τ2) := by rw [h2]; rfl
  refine lv_aload_n hx hb dL_law_489 rfl (lv_at hl 1 rfl) ?_
  refine lv_aload_n hx hb dL_law_490 rfl (lv_at hl 0 rfl) ?_
  refine lv_iload_n hx hb dL_law_491 rfl (lv_at hl 3 rfl) ?_
  refine lv_iconst (v := 1) hx hb dL_law_492 (by decide) ?_
  refine lv_iadd hx hb dL_law_493 ?_
  refine va_sld hx hb hX hbl hbA hS (hi 1 (by decide)).1 dL_law_494 ?_
  refine W.eq (g2 := F0 m 495 ls [.int (xs (i + 1)), .ref (ad 0)]) (congrArg (fun z => F0 m 495 ls (.int (xs z) :: [.ref (ad 0)])) (hi 1 (by decide)).2) ?_
  refine q_cVi (wf := (fun (z : SS) => wL cI cZ cS ad bd z τ)) (σ := σ) (wc := wX11 cI cZ cS ad) (σc := σ) (rest := []) ⟨hx, hb, hml, hown, hts⟩ hK hZ hA hP hD hS hf1 (fun x z ho => kX11_now l D cI cZ cS zz ad σ (xs (i + 1)) x z ho) (cwV 1 hts gl_X11_now rfl rfl rfl (by decide +kernel) ⟨Nat.le_of_ble_eq_true rfl, Nat.le_of_ble_eq_true rfl⟩) isA rfl (inA cI cZ cS ad bd σ τ) plA plA_ok (Nat.le_of_ble_eq_true rfl) (fun z => mxA cI cZ cS ad bd σ τ z) (fun _ => rfl) (fun z => adA cI cZ cS ad bd σ τ z) rfl rfl rfl rfl (hl.1) rfl (Nat.le_of_ble_eq_true rfl) dL_law_495 ⟨Nat.le_of_ble_eq_true rfl, Nat.le_of_ble_eq_true rfl⟩ (fun x z H locs hf hP hD hS => ?_)
  obtain ⟨hq1, hq2⟩ := Prod.mk.inj (Option.some.inj hf)
  rw [hq1]
  rw [hq2] at hP hD
  refine lv_aload_n hx hb dL_law_498 rfl (lv_at hl 2 rfl) ?_
  refine lv_aload_n hx hb dL_law_499 rfl (lv_at hl 0 rfl) ?_
  refine lv_iload_n hx hb dL_law_500 rfl (lv_at hl 3 rfl) ?_
  refine lv_iconst (v := 1) hx hb dL_law_501 (by decide) ?_
  refine lv_iadd hx hb dL_law_502 ?_
  refine va_sld hx hb hX hbl hbA hS (hi 1 (by decide)).1 dL_law_503 ?_
  refine W.eq (g2 := F0 m 504 ls [.int (xs (i + 1)), .ref (bd 0), .int r]) (congrArg (fun z => F0 m 504 ls (.int (xs z) :: [.ref (bd 0), .int r])) (hi 1 (by decide)).2) ?_
  refine q_cVi (wf := (fun (z : SS) => wL cI cZ cS ad bd σ2 z)) (σ := τ) (wc := wX12 cI cZ cS bd) (σc := τ) (rest := [.int r]) ⟨hx, hb, hml, hown, hts⟩ hK hZ hA hP hD hS hf2 (fun x z ho => kX12_now l D cI cZ cS zz bd τ (xs (i + 1)) x z ho) (cwV 1 hts gl_X12_now rfl rfl rfl (by decide +kernel) ⟨Nat.le_of_ble_eq_true rfl, Nat.le_of_ble_eq_true rfl⟩) isB rfl (inB cI cZ cS ad bd σ2 τ) plB plB_ok (Nat.le_of_ble_eq_true rfl) (fun z => mxB cI cZ cS ad bd σ2 τ z) (fun _ => rfl) (fun z => adB cI cZ cS ad bd σ2 τ z) rfl rfl rfl rfl (hl.1) rfl (Nat.le_of_ble_eq_true rfl) dL_law_504 ⟨Nat.le_of_ble_eq_true rfl, Nat.le_of_ble_eq_true rfl⟩ (fun x z H locs hf hP hD hS => ?_)
  obtain ⟨hq1, hq2⟩ := Prod.mk.inj (Option.some.inj hf)
  rw [hq1]
  rw [hq2] at hP hD
  refine lv_icmp_eq (tgt := 1589) hx hb dL_law_507 (by decide) (fun _ => ?_) (fun h => absurd rfl h)
  exact nx σ2 τ2 H locs ls hR2 hP hD hS hl
set_option maxRecDepth 100000 in
set_option maxHeartbeats 4000000 in
theorem lc_renew (C : LX p s m meth c b Ln xs D cI cZ cS zz) (hs : S_renew Rel) (ad bd : Nat → Nat) (i : Nat) (x3 : Int32) (hi : ∀ k : Nat, k < 6 → vp_in (x3 + nI k) Ln ∧ (x3 + nI k).toNatClampNeg = i + k) (nx : ∀ (σ τ : SS) (H : Heap) (locs : List Loc) (ls : Array Slot), Rel σ τ → va_P D vwCl (wL cI cZ cS ad bd σ τ) H → va_D (lA s) (wL cI cZ cS ad bd σ τ) → va_S (lA s) s.heap H locs → lv_has ls 4 [(0, .ref b), (1, .ref (ad 0)), (2, .ref (bd 0)), (3, .int x3)] → W p l e room_1 s m #[Value.ref b] below meth c H locs 84 5639 (lw_Z below #[Value.ref b] s) (F0 m 1589 ls [])) (σ τ : SS) (H : Heap) (locs : List Loc) (ls : Array Slot) (hR : Rel σ τ) (hP : va_P D vwCl (wL cI cZ cS ad bd σ τ) H) (hD : va_D (lA s) (wL cI cZ cS ad bd σ τ)) (hS : va_S (lA s) s.heap H locs) (hl : lv_has ls 4 [(0, .ref b), (1, .ref (ad 0)), (2, .ref (bd 0)), (3, .int x3)]) : W p l e room_1 s m #[Value.ref b] below meth c H locs 84 5639 (lw_Z below #[Value.ref b] s) (F0 m 512 ls []) := by
  obtain ⟨hx, hb, hml, hown, hts, hK, hZ, hX, hbl, hlocks, hr⟩ := id C
  have hbA : ¬ lA s b := Nat.not_le.mpr hbl
  have hA : ∀ q, s.heap.size ≤ q → lA s q := fun _ h => h
  obtain ⟨r, σ2, τ2, h1, h2, hR2⟩ := hs σ τ  hR
  have hf1 : q_ci (pX11_renew σ) (fun τ => τ) (fun x y => some (x, y)) = some (r, σ2) := by rw [h1]; rfl
  have hf2 : q_ci (pX12_renew τ) (fun τ => τ) (fun x y => some (x, y)) = some (r, τ2) := by rw [h2]; rfl
  refine lv_aload_n hx hb dL_law_512 rfl (lv_at hl 1 rfl) ?_
  refine q_cVi (wf := (fun (z : SS) => wL cI cZ cS ad bd z τ)) (σ := σ) (wc := wX11 cI cZ cS ad) (σc := σ) (rest := []) ⟨hx, hb, hml, hown, hts⟩ hK hZ hA hP hD hS hf1 (fun x z ho => kX11_renew l D cI cZ cS zz ad σ  x z ho) (cwV 0 hts gl_X11_renew rfl rfl rfl (by decide +kernel) ⟨Nat.le_of_ble_eq_true rfl, Nat.le_of_ble_eq_true rfl⟩) isA rfl (inA cI cZ cS ad bd σ τ) plA plA_ok (Nat.le_of_ble_eq_true rfl) (fun z => mxA cI cZ cS ad bd σ τ z) (fun _ => rfl) (fun z => adA cI cZ cS ad bd σ τ z) rfl rfl rfl rfl (hl.1) rfl (Nat.le_of_ble_eq_true rfl) dL_law_513 ⟨Nat.le_of_ble_eq_true rfl, Nat.le_of_ble_eq_true rfl⟩ (fun x z H locs hf hP hD hS => ?_)
  obtain ⟨hq1, hq2⟩ := Prod.mk.inj (Option.some.inj hf)
  rw [hq1]
  rw [hq2] at hP hD
  refine lv_aload_n hx hb dL_law_516 rfl (lv_at hl 2 rfl) ?_
  refine q_cVi (wf := (fun (z : SS) => wL cI cZ cS ad bd σ2 z)) (σ := τ) (wc := wX12 cI cZ cS bd) (σc := τ) (rest := [.int r]) ⟨hx, hb, hml, hown, hts⟩ hK hZ hA hP hD hS hf2 (fun x z ho => kX12_renew l D cI cZ cS zz bd τ  x z ho) (cwV 0 hts gl_X12_renew rfl rfl rfl (by decide +kernel) ⟨Nat.le_of_ble_eq_true rfl, Nat.le_of_ble_eq_true rfl⟩) isB rfl (inB cI cZ cS ad bd σ2 τ) plB plB_ok (Nat.le_of_ble_eq_true rfl) (fun z => mxB cI cZ cS ad bd σ2 τ z) (fun _ => rfl) (fun z => adB cI cZ cS ad bd σ2 τ z) rfl rfl rfl rfl (hl.1) rfl (Nat.le_of_ble_eq_true rfl) dL_law_517 ⟨Nat.le_of_ble_eq_true rfl, Nat.le_of_ble_eq_true rfl⟩ (fun x z H locs hf hP hD hS => ?_)
  obtain ⟨hq1, hq2⟩ := Prod.mk.inj (Option.some.inj hf)
  rw [hq1]
  rw [hq2] at hP hD
  refine lv_icmp_eq (tgt := 1589) hx hb dL_law_520 (by decide) (fun _ => ?_) (fun h => absurd rfl h)
  exact nx σ2 τ2 H locs ls hR2 hP hD hS hl
set_option maxRecDepth 100000 in
set_option maxHeartbeats 4000000 in
theorem lc_start (C : LX p s m meth c b Ln xs D cI cZ cS zz) (hs : S_start Rel) (ad bd : Nat → Nat) (i : Nat) (x3 : Int32) (hi : ∀ k : Nat, k < 6 → vp_in (x3 + nI k) Ln ∧ (x3 + nI k).toNatClampNeg = i + k) (nx : ∀ (σ τ : SS) (H : Heap) (locs : List Loc) (ls : Array Slot), Rel σ τ → va_P D vwCl (wL cI cZ cS ad bd σ τ) H → va_D (lA s) (wL cI cZ cS ad bd σ τ) → va_S (lA s) s.heap H locs → lv_has ls 4 [(0, .ref b), (1, .ref (ad 0)), (2, .ref (bd 0)), (3, .int x3)] → W p l e room_1 s m #[Value.ref b] below meth c H locs 84 5639 (lw_Z below #[Value.ref b] s) (F0 m 1589 ls [])) (σ τ : SS) (H : Heap) (locs : List Loc) (ls : Array Slot) (hR : Rel σ τ) (hP : va_P D vwCl (wL cI cZ cS ad bd σ τ) H) (hD : va_D (lA s) (wL cI cZ cS ad bd σ τ)) (hS : va_S (lA s) s.heap H locs) (hl : lv_has ls 4 [(0, .ref b), (1, .ref (ad 0)), (2, .ref (bd 0)), (3, .int x3)]) : W p l e room_1 s m #[Value.ref b] below meth c H locs 84 5639 (lw_Z below #[Value.ref b] s) (F0 m 525 ls []) := by
  obtain ⟨hx, hb, hml, hown, hts, hK, hZ, hX, hbl, hlocks, hr⟩ := id C
  have hbA : ¬ lA s b := Nat.not_le.mpr hbl
  have hA : ∀ q, s.heap.size ≤ q → lA s q := fun _ h => h
  obtain ⟨r, σ2, τ2, h1, h2, hR2⟩ := hs σ τ (xs (i + 1)) hR
  have hf1 : q_ci (pX11_start σ (xs (i + 1))) (fun τ => τ) (fun x y => some (x, y)) = some (r, σ2) := by rw [h1]; rfl
  have hf2 : q_ci (pX12_start τ (xs (i + 1))) (fun τ => τ) (fun x y => some (x, y)) = some (r, τ2) := by rw [h2]; rfl
  refine lv_aload_n hx hb dL_law_525 rfl (lv_at hl 1 rfl) ?_
  refine lv_aload_n hx hb dL_law_526 rfl (lv_at hl 0 rfl) ?_
  refine lv_iload_n hx hb dL_law_527 rfl (lv_at hl 3 rfl) ?_
  refine lv_iconst (v := 1) hx hb dL_law_528 (by decide) ?_
  refine lv_iadd hx hb dL_law_529 ?_
  refine va_sld hx hb hX hbl hbA hS (hi 1 (by decide)).1 dL_law_530 ?_
  refine W.eq (g2 := F0 m 531 ls [.int (xs (i + 1)), .ref (ad 0)]) (congrArg (fun z => F0 m 531 ls (.int (xs z) :: [.ref (ad 0)])) (hi 1 (by decide)).2) ?_
  refine q_cVi (wf := (fun (z : SS) => wL cI cZ cS ad bd z τ)) (σ := σ) (wc := wX11 cI cZ cS ad) (σc := σ) (rest := []) ⟨hx, hb, hml, hown, hts⟩ hK hZ hA hP hD hS hf1 (fun x z ho => kX11_start l D cI cZ cS zz ad σ (xs (i + 1)) x z ho) (cwV 1 hts gl_X11_start rfl rfl rfl (by decide +kernel) ⟨Nat.le_of_ble_eq_true rfl, Nat.le_of_ble_eq_true rfl⟩) isA rfl (inA cI cZ cS ad bd σ τ) plA plA_ok (Nat.le_of_ble_eq_true rfl) (fun z => mxA cI cZ cS ad bd σ τ z) (fun _ => rfl) (fun z => adA cI cZ cS ad bd σ τ z) rfl rfl rfl rfl (hl.1) rfl (Nat.le_of_ble_eq_true rfl) dL_law_531 ⟨Nat.le_of_ble_eq_true rfl, Nat.le_of_ble_eq_true rfl⟩ (fun x z H locs hf hP hD hS => ?_)
  obtain ⟨hq1, hq2⟩ := Prod.mk.inj (Option.some.inj hf)
  rw [hq1]
  rw [hq2] at hP hD
  refine lv_aload_n hx hb dL_law_534 rfl (lv_at hl 2 rfl) ?_
  refine lv_aload_n hx hb dL_law_535 rfl (lv_at hl 0 rfl) ?_
  refine lv_iload_n hx hb dL_law_536 rfl (lv_at hl 3 rfl) ?_
  refine lv_iconst (v := 1) hx hb dL_law_537 (by decide) ?_
  refine lv_iadd hx hb dL_law_538 ?_
  refine va_sld hx hb hX hbl hbA hS (hi 1 (by decide)).1 dL_law_539 ?_
  refine W.eq (g2 := F0 m 540 ls [.int (xs (i + 1)), .ref (bd 0), .int r]) (congrArg (fun z => F0 m 540 ls (.int (xs z) :: [.ref (bd 0), .int r])) (hi 1 (by decide)).2) ?_
  refine q_cVi (wf := (fun (z : SS) => wL cI cZ cS ad bd σ2 z)) (σ := τ) (wc := wX12 cI cZ cS bd) (σc := τ) (rest := [.int r]) ⟨hx, hb, hml, hown, hts⟩ hK hZ hA hP hD hS hf2 (fun x z ho => kX12_start l D cI cZ cS zz bd τ (xs (i + 1)) x z ho) (cwV 1 hts gl_X12_start rfl rfl rfl (by decide +kernel) ⟨Nat.le_of_ble_eq_true rfl, Nat.le_of_ble_eq_true rfl⟩) isB rfl (inB cI cZ cS ad bd σ2 τ) plB plB_ok (Nat.le_of_ble_eq_true rfl) (fun z => mxB cI cZ cS ad bd σ2 τ z) (fun _ => rfl) (fun z => adB cI cZ cS ad bd σ2 τ z) rfl rfl rfl rfl (hl.1) rfl (Nat.le_of_ble_eq_true rfl) dL_law_540 ⟨Nat.le_of_ble_eq_true rfl, Nat.le_of_ble_eq_true rfl⟩ (fun x z H locs hf hP hD hS => ?_)
  obtain ⟨hq1, hq2⟩ := Prod.mk.inj (Option.some.inj hf)
  rw [hq1]
  rw [hq2] at hP hD
  refine lv_icmp_eq (tgt := 1589) hx hb dL_law_543 (by decide) (fun _ => ?_) (fun h => absurd rfl h)
  exact nx σ2 τ2 H locs ls hR2 hP hD hS hl
set_option maxRecDepth 100000 in
set_option maxHeartbeats 4000000 in
theorem lc_quickest (C : LX p s m meth c b Ln xs D cI cZ cS zz) (hs : S_quickest Rel) (ad bd : Nat → Nat) (i : Nat) (x3 : Int32) (hi : ∀ k : Nat, k < 6 → vp_in (x3 + nI k) Ln ∧ (x3 + nI k).toNatClampNeg = i + k) (nx : ∀ (σ τ : SS) (H : Heap) (locs : List Loc) (ls : Array Slot), Rel σ τ → va_P D vwCl (wL cI cZ cS ad bd σ τ) H → va_D (lA s) (wL cI cZ cS ad bd σ τ) → va_S (lA s) s.heap H locs → lv_has ls 4 [(0, .ref b), (1, .ref (ad 0)), (2, .ref (bd 0)), (3, .int x3)] → W p l e room_1 s m #[Value.ref b] below meth c H locs 84 5639 (lw_Z below #[Value.ref b] s) (F0 m 1589 ls [])) (σ τ : SS) (H : Heap) (locs : List Loc) (ls : Array Slot) (hR : Rel σ τ) (hP : va_P D vwCl (wL cI cZ cS ad bd σ τ) H) (hD : va_D (lA s) (wL cI cZ cS ad bd σ τ)) (hS : va_S (lA s) s.heap H locs) (hl : lv_has ls 4 [(0, .ref b), (1, .ref (ad 0)), (2, .ref (bd 0)), (3, .int x3)]) : W p l e room_1 s m #[Value.ref b] below meth c H locs 84 5639 (lw_Z below #[Value.ref b] s) (F0 m 548 ls []) := by
  obtain ⟨hx, hb, hml, hown, hts, hK, hZ, hX, hbl, hlocks, hr⟩ := id C
  have hbA : ¬ lA s b := Nat.not_le.mpr hbl
  have hA : ∀ q, s.heap.size ≤ q → lA s q := fun _ h => h
  obtain ⟨r, σ2, τ2, h1, h2, hR2⟩ := hs σ τ  hR
  have hf1 : q_ci (pX11_quickest σ) (fun τ => τ) (fun x y => some (x, y)) = some (r, σ2) := by rw [h1]; rfl
  have hf2 : q_ci (pX12_quickest τ) (fun τ => τ) (fun x y => some (x, y)) = some (r, τ2) := by rw [h2]; rfl
  refine lv_aload_n hx hb dL_law_548 rfl (lv_at hl 1 rfl) ?_
  refine q_cVi (wf := (fun (z : SS) => wL cI cZ cS ad bd z τ)) (σ := σ) (wc := wX11 cI cZ cS ad) (σc := σ) (rest := []) ⟨hx, hb, hml, hown, hts⟩ hK hZ hA hP hD hS hf1 (fun x z ho => kX11_quickest l D cI cZ cS zz ad σ  x z ho) (cwV 0 hts gl_X11_quickest rfl rfl rfl (by decide +kernel) ⟨Nat.le_of_ble_eq_true rfl, Nat.le_of_ble_eq_true rfl⟩) isA rfl (inA cI cZ cS ad bd σ τ) plA plA_ok (Nat.le_of_ble_eq_true rfl) (fun z => mxA cI cZ cS ad bd σ τ z) (fun _ => rfl) (fun z => adA cI cZ cS ad bd σ τ z) rfl rfl rfl rfl (hl.1) rfl (Nat.le_of_ble_eq_true rfl) dL_law_549 ⟨Nat.le_of_ble_eq_true rfl, Nat.le_of_ble_eq_true rfl⟩ (fun x z H locs hf hP hD hS => ?_)
  obtain ⟨hq1, hq2⟩ := Prod.mk.inj (Option.some.inj hf)
  rw [hq1]
  rw [hq2] at hP hD
  refine lv_aload_n hx hb dL_law_552 rfl (lv_at hl 2 rfl) ?_
  refine q_cVi (wf := (fun (z : SS) => wL cI cZ cS ad bd σ2 z)) (σ := τ) (wc := wX12 cI cZ cS bd) (σc := τ) (rest := [.int r]) ⟨hx, hb, hml, hown, hts⟩ hK hZ hA hP hD hS hf2 (fun x z ho => kX12_quickest l D cI cZ cS zz bd τ  x z ho) (cwV 0 hts gl_X12_quickest rfl rfl rfl (by decide +kernel) ⟨Nat.le_of_ble_eq_true rfl, Nat.le_of_ble_eq_true rfl⟩) isB rfl (inB cI cZ cS ad bd σ2 τ) plB plB_ok (Nat.le_of_ble_eq_true rfl) (fun z => mxB cI cZ cS ad bd σ2 τ z) (fun _ => rfl) (fun z => adB cI cZ cS ad bd σ2 τ z) rfl rfl rfl rfl (hl.1) rfl (Nat.le_of_ble_eq_true rfl) dL_law_553 ⟨Nat.le_of_ble_eq_true rfl, Nat.le_of_ble_eq_true rfl⟩ (fun x z H locs hf hP hD hS => ?_)
  obtain ⟨hq1, hq2⟩ := Prod.mk.inj (Option.some.inj hf)
  rw [hq1]
  rw [hq2] at hP hD
  refine lv_icmp_eq (tgt := 1589) hx hb dL_law_556 (by decide) (fun _ => ?_) (fun h => absurd rfl h)
  exact nx σ2 τ2 H locs ls hR2 hP hD hS hl
set_option maxRecDepth 100000 in
set_option maxHeartbeats 4000000 in
theorem lc_came (C : LX p s m meth c b Ln xs D cI cZ cS zz) (hs : S_came Rel) (ad bd : Nat → Nat) (i : Nat) (x3 : Int32) (hi : ∀ k : Nat, k < 6 → vp_in (x3 + nI k) Ln ∧ (x3 + nI k).toNatClampNeg = i + k) (nx : ∀ (σ τ : SS) (H : Heap) (locs : List Loc) (ls : Array Slot), Rel σ τ → va_P D vwCl (wL cI cZ cS ad bd σ τ) H → va_D (lA s) (wL cI cZ cS ad bd σ τ) → va_S (lA s) s.heap H locs → lv_has ls 4 [(0, .ref b), (1, .ref (ad 0)), (2, .ref (bd 0)), (3, .int x3)] → W p l e room_1 s m #[Value.ref b] below meth c H locs 84 5639 (lw_Z below #[Value.ref b] s) (F0 m 1589 ls [])) (σ τ : SS) (H : Heap) (locs : List Loc) (ls : Array Slot) (hR : Rel σ τ) (hP : va_P D vwCl (wL cI cZ cS ad bd σ τ) H) (hD : va_D (lA s) (wL cI cZ cS ad bd σ τ)) (hS : va_S (lA s) s.heap H locs) (hl : lv_has ls 4 [(0, .ref b), (1, .ref (ad 0)), (2, .ref (bd 0)), (3, .int x3)]) : W p l e room_1 s m #[Value.ref b] below meth c H locs 84 5639 (lw_Z below #[Value.ref b] s) (F0 m 561 ls []) := by
  obtain ⟨hx, hb, hml, hown, hts, hK, hZ, hX, hbl, hlocks, hr⟩ := id C
  have hbA : ¬ lA s b := Nat.not_le.mpr hbl
  have hA : ∀ q, s.heap.size ≤ q → lA s q := fun _ h => h
  obtain ⟨r, σ2, τ2, h1, h2, hR2⟩ := hs σ τ  hR
  have hf1 : q_ci (pX11_came σ) (fun τ => τ) (fun x y => some (x, y)) = some (r, σ2) := by rw [h1]; rfl
  have hf2 : q_ci (pX12_came τ) (fun τ => τ) (fun x y => some (x, y)) = some (r, τ2) := by rw [h2]; rfl
  refine lv_aload_n hx hb dL_law_561 rfl (lv_at hl 1 rfl) ?_
  refine q_cVi (wf := (fun (z : SS) => wL cI cZ cS ad bd z τ)) (σ := σ) (wc := wX11 cI cZ cS ad) (σc := σ) (rest := []) ⟨hx, hb, hml, hown, hts⟩ hK hZ hA hP hD hS hf1 (fun x z ho => kX11_came l D cI cZ cS zz ad σ  x z ho) (cwV 0 hts gl_X11_came rfl rfl rfl (by decide +kernel) ⟨Nat.le_of_ble_eq_true rfl, Nat.le_of_ble_eq_true rfl⟩) isA rfl (inA cI cZ cS ad bd σ τ) plA plA_ok (Nat.le_of_ble_eq_true rfl) (fun z => mxA cI cZ cS ad bd σ τ z) (fun _ => rfl) (fun z => adA cI cZ cS ad bd σ τ z) rfl rfl rfl rfl (hl.1) rfl (Nat.le_of_ble_eq_true rfl) dL_law_562 ⟨Nat.le_of_ble_eq_true rfl, Nat.le_of_ble_eq_true rfl⟩ (fun x z H locs hf hP hD hS => ?_)
  obtain ⟨hq1, hq2⟩ := Prod.mk.inj (Option.some.inj hf)
  rw [hq1]
  rw [hq2] at hP hD
  refine lv_aload_n hx hb dL_law_565 rfl (lv_at hl 2 rfl) ?_
  refine q_cVi (wf := (fun (z : SS) => wL cI cZ cS ad bd σ2 z)) (σ := τ) (wc := wX12 cI cZ cS bd) (σc := τ) (rest := [.int r]) ⟨hx, hb, hml, hown, hts⟩ hK hZ hA hP hD hS hf2 (fun x z ho => kX12_came l D cI cZ cS zz bd τ  x z ho) (cwV 0 hts gl_X12_came rfl rfl rfl (by decide +kernel) ⟨Nat.le_of_ble_eq_true rfl, Nat.le_of_ble_eq_true rfl⟩) isB rfl (inB cI cZ cS ad bd σ2 τ) plB plB_ok (Nat.le_of_ble_eq_true rfl) (fun z => mxB cI cZ cS ad bd σ2 τ z) (fun _ => rfl) (fun z => adB cI cZ cS ad bd σ2 τ z) rfl rfl rfl rfl (hl.1) rfl (Nat.le_of_ble_eq_true rfl) dL_law_566 ⟨Nat.le_of_ble_eq_true rfl, Nat.le_of_ble_eq_true rfl⟩ (fun x z H locs hf hP hD hS => ?_)
  obtain ⟨hq1, hq2⟩ := Prod.mk.inj (Option.some.inj hf)
  rw [hq1]
  rw [hq2] at hP hD
  refine lv_icmp_eq (tgt := 1589) hx hb dL_law_569 (by decide) (fun _ => ?_) (fun h => absurd rfl h)
  exact nx σ2 τ2 H locs ls hR2 hP hD hS hl
set_option maxRecDepth 100000 in
set_option maxHeartbeats 4000000 in
theorem lc_thing (C : LX p s m meth c b Ln xs D cI cZ cS zz) (hs : S_thing Rel) (ad bd : Nat → Nat) (i : Nat) (x3 : Int32) (hi : ∀ k : Nat, k < 6 → vp_in (x3 + nI k) Ln ∧ (x3 + nI k).toNatClampNeg = i + k) (nx : ∀ (σ τ : SS) (H : Heap) (locs : List Loc) (ls : Array Slot), Rel σ τ → va_P D vwCl (wL cI cZ cS ad bd σ τ) H → va_D (lA s) (wL cI cZ cS ad bd σ τ) → va_S (lA s) s.heap H locs → lv_has ls 4 [(0, .ref b), (1, .ref (ad 0)), (2, .ref (bd 0)), (3, .int x3)] → W p l e room_1 s m #[Value.ref b] below meth c H locs 84 5639 (lw_Z below #[Value.ref b] s) (F0 m 1589 ls [])) (σ τ : SS) (H : Heap) (locs : List Loc) (ls : Array Slot) (hR : Rel σ τ) (hP : va_P D vwCl (wL cI cZ cS ad bd σ τ) H) (hD : va_D (lA s) (wL cI cZ cS ad bd σ τ)) (hS : va_S (lA s) s.heap H locs) (hl : lv_has ls 4 [(0, .ref b), (1, .ref (ad 0)), (2, .ref (bd 0)), (3, .int x3)]) : W p l e room_1 s m #[Value.ref b] below meth c H locs 84 5639 (lw_Z below #[Value.ref b] s) (F0 m 574 ls []) := by
  obtain ⟨hx, hb, hml, hown, hts, hK, hZ, hX, hbl, hlocks, hr⟩ := id C
  have hbA : ¬ lA s b := Nat.not_le.mpr hbl
  have hA : ∀ q, s.heap.size ≤ q → lA s q := fun _ h => h
  obtain ⟨r, σ2, τ2, h1, h2, hR2⟩ := hs σ τ (xs (i + 1)) (xs (i + 2)) (xs (i + 3)) hR
  have hf1 : q_ci (pX11_thing σ (xs (i + 1)) (xs (i + 2)) (xs (i + 3))) (fun τ => τ) (fun x y => some (x, y)) = some (r, σ2) := by rw [h1]; rfl
  have hf2 : q_ci (pX12_thing τ (xs (i + 1)) (xs (i + 2)) (xs (i + 3))) (fun τ => τ) (fun x y => some (x, y)) = some (r, τ2) := by rw [h2]; rfl
  refine lv_aload_n hx hb dL_law_574 rfl (lv_at hl 1 rfl) ?_
  refine lv_aload_n hx hb dL_law_575 rfl (lv_at hl 0 rfl) ?_
  refine lv_iload_n hx hb dL_law_576 rfl (lv_at hl 3 rfl) ?_
  refine lv_iconst (v := 1) hx hb dL_law_577 (by decide) ?_
  refine lv_iadd hx hb dL_law_578 ?_
  refine va_sld hx hb hX hbl hbA hS (hi 1 (by decide)).1 dL_law_579 ?_
  refine W.eq (g2 := F0 m 580 ls [.int (xs (i + 1)), .ref (ad 0)]) (congrArg (fun z => F0 m 580 ls (.int (xs z) :: [.ref (ad 0)])) (hi 1 (by decide)).2) ?_
  refine lv_aload_n hx hb dL_law_580 rfl (lv_at hl 0 rfl) ?_
  refine lv_iload_n hx hb dL_law_581 rfl (lv_at hl 3 rfl) ?_
  refine lv_iconst (v := 2) hx hb dL_law_582 (by decide) ?_
  refine lv_iadd hx hb dL_law_583 ?_
  refine va_sld hx hb hX hbl hbA hS (hi 2 (by decide)).1 dL_law_584 ?_
  refine W.eq (g2 := F0 m 585 ls [.int (xs (i + 2)), .int (xs (i + 1)), .ref (ad 0)]) (congrArg (fun z => F0 m 585 ls (.int (xs z) :: [.int (xs (i + 1)), .ref (ad 0)])) (hi 2 (by decide)).2) ?_
  refine lv_aload_n hx hb dL_law_585 rfl (lv_at hl 0 rfl) ?_
  refine lv_iload_n hx hb dL_law_586 rfl (lv_at hl 3 rfl) ?_
  refine lv_iconst (v := 3) hx hb dL_law_587 (by decide) ?_
  refine lv_iadd hx hb dL_law_588 ?_
  refine va_sld hx hb hX hbl hbA hS (hi 3 (by decide)).1 dL_law_589 ?_
  refine W.eq (g2 := F0 m 590 ls [.int (xs (i + 3)), .int (xs (i + 2)), .int (xs (i + 1)), .ref (ad 0)]) (congrArg (fun z => F0 m 590 ls (.int (xs z) :: [.int (xs (i + 2)), .int (xs (i + 1)), .ref (ad 0)])) (hi 3 (by decide)).2) ?_
  refine q_cVi (wf := (fun (z : SS) => wL cI cZ cS ad bd z τ)) (σ := σ) (wc := wX11 cI cZ cS ad) (σc := σ) (rest := []) ⟨hx, hb, hml, hown, hts⟩ hK hZ hA hP hD hS hf1 (fun x z ho => kX11_thing l D cI cZ cS zz ad σ (xs (i + 1)) (xs (i + 2)) (xs (i + 3)) x z ho) (cwV 3 hts gl_X11_thing rfl rfl rfl (by decide +kernel) ⟨Nat.le_of_ble_eq_true rfl, Nat.le_of_ble_eq_true rfl⟩) isA rfl (inA cI cZ cS ad bd σ τ) plA plA_ok (Nat.le_of_ble_eq_true rfl) (fun z => mxA cI cZ cS ad bd σ τ z) (fun _ => rfl) (fun z => adA cI cZ cS ad bd σ τ z) rfl rfl rfl rfl (hl.1) rfl (Nat.le_of_ble_eq_true rfl) dL_law_590 ⟨Nat.le_of_ble_eq_true rfl, Nat.le_of_ble_eq_true rfl⟩ (fun x z H locs hf hP hD hS => ?_)
  obtain ⟨hq1, hq2⟩ := Prod.mk.inj (Option.some.inj hf)
  rw [hq1]
  rw [hq2] at hP hD
  refine lv_aload_n hx hb dL_law_593 rfl (lv_at hl 2 rfl) ?_
  refine lv_aload_n hx hb dL_law_594 rfl (lv_at hl 0 rfl) ?_
  refine lv_iload_n hx hb dL_law_595 rfl (lv_at hl 3 rfl) ?_
  refine lv_iconst (v := 1) hx hb dL_law_596 (by decide) ?_
  refine lv_iadd hx hb dL_law_597 ?_
  refine va_sld hx hb hX hbl hbA hS (hi 1 (by decide)).1 dL_law_598 ?_
  refine W.eq (g2 := F0 m 599 ls [.int (xs (i + 1)), .ref (bd 0), .int r]) (congrArg (fun z => F0 m 599 ls (.int (xs z) :: [.ref (bd 0), .int r])) (hi 1 (by decide)).2) ?_
  refine lv_aload_n hx hb dL_law_599 rfl (lv_at hl 0 rfl) ?_
  refine lv_iload_n hx hb dL_law_600 rfl (lv_at hl 3 rfl) ?_
  refine lv_iconst (v := 2) hx hb dL_law_601 (by decide) ?_
  refine lv_iadd hx hb dL_law_602 ?_
  refine va_sld hx hb hX hbl hbA hS (hi 2 (by decide)).1 dL_law_603 ?_
  refine W.eq (g2 := F0 m 604 ls [.int (xs (i + 2)), .int (xs (i + 1)), .ref (bd 0), .int r]) (congrArg (fun z => F0 m 604 ls (.int (xs z) :: [.int (xs (i + 1)), .ref (bd 0), .int r])) (hi 2 (by decide)).2) ?_
  refine lv_aload_n hx hb dL_law_604 rfl (lv_at hl 0 rfl) ?_
  refine lv_iload_n hx hb dL_law_605 rfl (lv_at hl 3 rfl) ?_
  refine lv_iconst (v := 3) hx hb dL_law_606 (by decide) ?_
  refine lv_iadd hx hb dL_law_607 ?_
  refine va_sld hx hb hX hbl hbA hS (hi 3 (by decide)).1 dL_law_608 ?_
  refine W.eq (g2 := F0 m 609 ls [.int (xs (i + 3)), .int (xs (i + 2)), .int (xs (i + 1)), .ref (bd 0), .int r]) (congrArg (fun z => F0 m 609 ls (.int (xs z) :: [.int (xs (i + 2)), .int (xs (i + 1)), .ref (bd 0), .int r])) (hi 3 (by decide)).2) ?_
  refine q_cVi (wf := (fun (z : SS) => wL cI cZ cS ad bd σ2 z)) (σ := τ) (wc := wX12 cI cZ cS bd) (σc := τ) (rest := [.int r]) ⟨hx, hb, hml, hown, hts⟩ hK hZ hA hP hD hS hf2 (fun x z ho => kX12_thing l D cI cZ cS zz bd τ (xs (i + 1)) (xs (i + 2)) (xs (i + 3)) x z ho) (cwV 3 hts gl_X12_thing rfl rfl rfl (by decide +kernel) ⟨Nat.le_of_ble_eq_true rfl, Nat.le_of_ble_eq_true rfl⟩) isB rfl (inB cI cZ cS ad bd σ2 τ) plB plB_ok (Nat.le_of_ble_eq_true rfl) (fun z => mxB cI cZ cS ad bd σ2 τ z) (fun _ => rfl) (fun z => adB cI cZ cS ad bd σ2 τ z) rfl rfl rfl rfl (hl.1) rfl (Nat.le_of_ble_eq_true rfl) dL_law_609 ⟨Nat.le_of_ble_eq_true rfl, Nat.le_of_ble_eq_true rfl⟩ (fun x z H locs hf hP hD hS => ?_)
  obtain ⟨hq1, hq2⟩ := Prod.mk.inj (Option.some.inj hf)
  rw [hq1]
  rw [hq2] at hP hD
  refine lv_icmp_eq (tgt := 1589) hx hb dL_law_612 (by decide) (fun _ => ?_) (fun h => absurd rfl h)
  exact nx σ2 τ2 H locs ls hR2 hP hD hS hl
set_option maxRecDepth 100000 in
set_option maxHeartbeats 4000000 in
theorem lc_thingOf (C : LX p s m meth c b Ln xs D cI cZ cS zz) (hs : S_thingOf Rel) (ad bd : Nat → Nat) (i : Nat) (x3 : Int32) (hi : ∀ k : Nat, k < 6 → vp_in (x3 + nI k) Ln ∧ (x3 + nI k).toNatClampNeg = i + k) (nx : ∀ (σ τ : SS) (H : Heap) (locs : List Loc) (ls : Array Slot), Rel σ τ → va_P D vwCl (wL cI cZ cS ad bd σ τ) H → va_D (lA s) (wL cI cZ cS ad bd σ τ) → va_S (lA s) s.heap H locs → lv_has ls 4 [(0, .ref b), (1, .ref (ad 0)), (2, .ref (bd 0)), (3, .int x3)] → W p l e room_1 s m #[Value.ref b] below meth c H locs 84 5639 (lw_Z below #[Value.ref b] s) (F0 m 1589 ls [])) (σ τ : SS) (H : Heap) (locs : List Loc) (ls : Array Slot) (hR : Rel σ τ) (hP : va_P D vwCl (wL cI cZ cS ad bd σ τ) H) (hD : va_D (lA s) (wL cI cZ cS ad bd σ τ)) (hS : va_S (lA s) s.heap H locs) (hl : lv_has ls 4 [(0, .ref b), (1, .ref (ad 0)), (2, .ref (bd 0)), (3, .int x3)]) : W p l e room_1 s m #[Value.ref b] below meth c H locs 84 5639 (lw_Z below #[Value.ref b] s) (F0 m 617 ls []) := by
  obtain ⟨hx, hb, hml, hown, hts, hK, hZ, hX, hbl, hlocks, hr⟩ := id C
  have hbA : ¬ lA s b := Nat.not_le.mpr hbl
  have hA : ∀ q, s.heap.size ≤ q → lA s q := fun _ h => h
  obtain ⟨r, σ2, τ2, h1, h2, hR2⟩ := hs σ τ (xs (i + 1)) (xs (i + 2)) hR
  have hf1 : q_ci (pX11_thingOf σ (xs (i + 1)) (xs (i + 2))) (fun τ => τ) (fun x y => some (x, y)) = some (r, σ2) := by rw [h1]; rfl
  have hf2 : q_ci (pX12_thingOf τ (xs (i + 1)) (xs (i + 2))) (fun τ => τ) (fun x y => some (x, y)) = some (r, τ2) := by rw [h2]; rfl
  refine lv_aload_n hx hb dL_law_617 rfl (lv_at hl 1 rfl) ?_
  refine lv_aload_n hx hb dL_law_618 rfl (lv_at hl 0 rfl) ?_
  refine lv_iload_n hx hb dL_law_619 rfl (lv_at hl 3 rfl) ?_
  refine lv_iconst (v := 1) hx hb dL_law_620 (by decide) ?_
  refine lv_iadd hx hb dL_law_621 ?_
  refine va_sld hx hb hX hbl hbA hS (hi 1 (by decide)).1 dL_law_622 ?_
  refine W.eq (g2 := F0 m 623 ls [.int (xs (i + 1)), .ref (ad 0)]) (congrArg (fun z => F0 m 623 ls (.int (xs z) :: [.ref (ad 0)])) (hi 1 (by decide)).2) ?_
  refine lv_aload_n hx hb dL_law_623 rfl (lv_at hl 0 rfl) ?_
  refine lv_iload_n hx hb dL_law_624 rfl (lv_at hl 3 rfl) ?_
  refine lv_iconst (v := 2) hx hb dL_law_625 (by decide) ?_
  refine lv_iadd hx hb dL_law_626 ?_
  refine va_sld hx hb hX hbl hbA hS (hi 2 (by decide)).1 dL_law_627 ?_
  refine W.eq (g2 := F0 m 628 ls [.int (xs (i + 2)), .int (xs (i + 1)), .ref (ad 0)]) (congrArg (fun z => F0 m 628 ls (.int (xs z) :: [.int (xs (i + 1)), .ref (ad 0)])) (hi 2 (by decide)).2) ?_
  refine q_cVi (wf := (fun (z : SS) => wL cI cZ cS ad bd z τ)) (σ := σ) (wc := wX11 cI cZ cS ad) (σc := σ) (rest := []) ⟨hx, hb, hml, hown, hts⟩ hK hZ hA hP hD hS hf1 (fun x z ho => kX11_thingOf l D cI cZ cS zz ad σ (xs (i + 1)) (xs (i + 2)) x z ho) (cwV 2 hts gl_X11_thingOf rfl rfl rfl (by decide +kernel) ⟨Nat.le_of_ble_eq_true rfl, Nat.le_of_ble_eq_true rfl⟩) isA rfl (inA cI cZ cS ad bd σ τ) plA plA_ok (Nat.le_of_ble_eq_true rfl) (fun z => mxA cI cZ cS ad bd σ τ z) (fun _ => rfl) (fun z => adA cI cZ cS ad bd σ τ z) rfl rfl rfl rfl (hl.1) rfl (Nat.le_of_ble_eq_true rfl) dL_law_628 ⟨Nat.le_of_ble_eq_true rfl, Nat.le_of_ble_eq_true rfl⟩ (fun x z H locs hf hP hD hS => ?_)
  obtain ⟨hq1, hq2⟩ := Prod.mk.inj (Option.some.inj hf)
  rw [hq1]
  rw [hq2] at hP hD
  refine lv_aload_n hx hb dL_law_631 rfl (lv_at hl 2 rfl) ?_
  refine lv_aload_n hx hb dL_law_632 rfl (lv_at hl 0 rfl) ?_
  refine lv_iload_n hx hb dL_law_633 rfl (lv_at hl 3 rfl) ?_
  refine lv_iconst (v := 1) hx hb dL_law_634 (by decide) ?_
  refine lv_iadd hx hb dL_law_635 ?_
  refine va_sld hx hb hX hbl hbA hS (hi 1 (by decide)).1 dL_law_636 ?_
  refine W.eq (g2 := F0 m 637 ls [.int (xs (i + 1)), .ref (bd 0), .int r]) (congrArg (fun z => F0 m 637 ls (.int (xs z) :: [.ref (bd 0), .int r])) (hi 1 (by decide)).2) ?_
  refine lv_aload_n hx hb dL_law_637 rfl (lv_at hl 0 rfl) ?_
  refine lv_iload_n hx hb dL_law_638 rfl (lv_at hl 3 rfl) ?_
  refine lv_iconst (v := 2) hx hb dL_law_639 (by decide) ?_
  refine lv_iadd hx hb dL_law_640 ?_
  refine va_sld hx hb hX hbl hbA hS (hi 2 (by decide)).1 dL_law_641 ?_
  refine W.eq (g2 := F0 m 642 ls [.int (xs (i + 2)), .int (xs (i + 1)), .ref (bd 0), .int r]) (congrArg (fun z => F0 m 642 ls (.int (xs z) :: [.int (xs (i + 1)), .ref (bd 0), .int r])) (hi 2 (by decide)).2) ?_
  refine q_cVi (wf := (fun (z : SS) => wL cI cZ cS ad bd σ2 z)) (σ := τ) (wc := wX12 cI cZ cS bd) (σc := τ) (rest := [.int r]) ⟨hx, hb, hml, hown, hts⟩ hK hZ hA hP hD hS hf2 (fun x z ho => kX12_thingOf l D cI cZ cS zz bd τ (xs (i + 1)) (xs (i + 2)) x z ho) (cwV 2 hts gl_X12_thingOf rfl rfl rfl (by decide +kernel) ⟨Nat.le_of_ble_eq_true rfl, Nat.le_of_ble_eq_true rfl⟩) isB rfl (inB cI cZ cS ad bd σ2 τ) plB plB_ok (Nat.le_of_ble_eq_true rfl) (fun z => mxB cI cZ cS ad bd σ2 τ z) (fun _ => rfl) (fun z => adB cI cZ cS ad bd σ2 τ z) rfl rfl rfl rfl (hl.1) rfl (Nat.le_of_ble_eq_true rfl) dL_law_642 ⟨Nat.le_of_ble_eq_true rfl, Nat.le_of_ble_eq_true rfl⟩ (fun x z H locs hf hP hD hS => ?_)
  obtain ⟨hq1, hq2⟩ := Prod.mk.inj (Option.some.inj hf)
  rw [hq1]
  rw [hq2] at hP hD
  refine lv_icmp_eq (tgt := 1589) hx hb dL_law_645 (by decide) (fun _ => ?_) (fun h => absurd rfl h)
  exact nx σ2 τ2 H locs ls hR2 hP hD hS hl
set_option maxRecDepth 100000 in
set_option maxHeartbeats 4000000 in
theorem lc_lift (C : LX p s m meth c b Ln xs D cI cZ cS zz) (hs : S_lift Rel) (ad bd : Nat → Nat) (i : Nat) (x3 : Int32) (hi : ∀ k : Nat, k < 6 → vp_in (x3 + nI k) Ln ∧ (x3 + nI k).toNatClampNeg = i + k) (nx : ∀ (σ τ : SS) (H : Heap) (locs : List Loc) (ls : Array Slot), Rel σ τ → va_P D vwCl (wL cI cZ cS ad bd σ τ) H → va_D (lA s) (wL cI cZ cS ad bd σ τ) → va_S (lA s) s.heap H locs → lv_has ls 4 [(0, .ref b), (1, .ref (ad 0)), (2, .ref (bd 0)), (3, .int x3)] → W p l e room_1 s m #[Value.ref b] below meth c H locs 84 5639 (lw_Z below #[Value.ref b] s) (F0 m 1589 ls [])) (σ τ : SS) (H : Heap) (locs : List Loc) (ls : Array Slot) (hR : Rel σ τ) (hP : va_P D vwCl (wL cI cZ cS ad bd σ τ) H) (hD : va_D (lA s) (wL cI cZ cS ad bd σ τ)) (hS : va_S (lA s) s.heap H locs) (hl : lv_has ls 4 [(0, .ref b), (1, .ref (ad 0)), (2, .ref (bd 0)), (3, .int x3)]) : W p l e room_1 s m #[Value.ref b] below meth c H locs 84 5639 (lw_Z below #[Value.ref b] s) (F0 m 650 ls []) := by
  obtain ⟨hx, hb, hml, hown, hts, hK, hZ, hX, hbl, hlocks, hr⟩ := id C
  have hbA : ¬ lA s b := Nat.not_le.mpr hbl
  have hA : ∀ q, s.heap.size ≤ q → lA s q := fun _ h => h
  obtain ⟨r, σ2, τ2, h1, h2, hR2⟩ := hs σ τ (xs (i + 1)) hR
  have hf1 : q_ci (pX11_lift σ (xs (i + 1))) (fun τ => τ) (fun x y => some (x, y)) = some (r, σ2) := by rw [h1]; rfl
  have hf2 : q_ci (pX12_lift τ (xs (i + 1))) (fun τ => τ) (fun x y => some (x, y)) = some (r, τ2) := by rw [h2]; rfl
  refine lv_aload_n hx hb dL_law_650 rfl (lv_at hl 1 rfl) ?_
  refine lv_aload_n hx hb dL_law_651 rfl (lv_at hl 0 rfl) ?_
  refine lv_iload_n hx hb dL_law_652 rfl (lv_at hl 3 rfl) ?_
  refine lv_iconst (v := 1) hx hb dL_law_653 (by decide) ?_
  refine lv_iadd hx hb dL_law_654 ?_
  refine va_sld hx hb hX hbl hbA hS (hi 1 (by decide)).1 dL_law_655 ?_
  refine W.eq (g2 := F0 m 656 ls [.int (xs (i + 1)), .ref (ad 0)]) (congrArg (fun z => F0 m 656 ls (.int (xs z) :: [.ref (ad 0)])) (hi 1 (by decide)).2) ?_
  refine q_cVi (wf := (fun (z : SS) => wL cI cZ cS ad bd z τ)) (σ := σ) (wc := wX11 cI cZ cS ad) (σc := σ) (rest := []) ⟨hx, hb, hml, hown, hts⟩ hK hZ hA hP hD hS hf1 (fun x z ho => kX11_lift l D cI cZ cS zz ad σ (xs (i + 1)) x z ho) (cwV 1 hts gl_X11_lift rfl rfl rfl (by decide +kernel) ⟨Nat.le_of_ble_eq_true rfl, Nat.le_of_ble_eq_true rfl⟩) isA rfl (inA cI cZ cS ad bd σ τ) plA plA_ok (Nat.le_of_ble_eq_true rfl) (fun z => mxA cI cZ cS ad bd σ τ z) (fun _ => rfl) (fun z => adA cI cZ cS ad bd σ τ z) rfl rfl rfl rfl (hl.1) rfl (Nat.le_of_ble_eq_true rfl) dL_law_656 ⟨Nat.le_of_ble_eq_true rfl, Nat.le_of_ble_eq_true rfl⟩ (fun x z H locs hf hP hD hS => ?_)
  obtain ⟨hq1, hq2⟩ := Prod.mk.inj (Option.some.inj hf)
  rw [hq1]
  rw [hq2] at hP hD
  refine lv_aload_n hx hb dL_law_659 rfl (lv_at hl 2 rfl) ?_
  refine lv_aload_n hx hb dL_law_660 rfl (lv_at hl 0 rfl) ?_
  refine lv_iload_n hx hb dL_law_661 rfl (lv_at hl 3 rfl) ?_
  refine lv_iconst (v := 1) hx hb dL_law_662 (by decide) ?_
  refine lv_iadd hx hb dL_law_663 ?_
  refine va_sld hx hb hX hbl hbA hS (hi 1 (by decide)).1 dL_law_664 ?_
  refine W.eq (g2 := F0 m 665 ls [.int (xs (i + 1)), .ref (bd 0), .int r]) (congrArg (fun z => F0 m 665 ls (.int (xs z) :: [.ref (bd 0), .int r])) (hi 1 (by decide)).2) ?_
  refine q_cVi (wf := (fun (z : SS) => wL cI cZ cS ad bd σ2 z)) (σ := τ) (wc := wX12 cI cZ cS bd) (σc := τ) (rest := [.int r]) ⟨hx, hb, hml, hown, hts⟩ hK hZ hA hP hD hS hf2 (fun x z ho => kX12_lift l D cI cZ cS zz bd τ (xs (i + 1)) x z ho) (cwV 1 hts gl_X12_lift rfl rfl rfl (by decide +kernel) ⟨Nat.le_of_ble_eq_true rfl, Nat.le_of_ble_eq_true rfl⟩) isB rfl (inB cI cZ cS ad bd σ2 τ) plB plB_ok (Nat.le_of_ble_eq_true rfl) (fun z => mxB cI cZ cS ad bd σ2 τ z) (fun _ => rfl) (fun z => adB cI cZ cS ad bd σ2 τ z) rfl rfl rfl rfl (hl.1) rfl (Nat.le_of_ble_eq_true rfl) dL_law_665 ⟨Nat.le_of_ble_eq_true rfl, Nat.le_of_ble_eq_true rfl⟩ (fun x z H locs hf hP hD hS => ?_)
  obtain ⟨hq1, hq2⟩ := Prod.mk.inj (Option.some.inj hf)
  rw [hq1]
  rw [hq2] at hP hD
  refine lv_icmp_eq (tgt := 1589) hx hb dL_law_668 (by decide) (fun _ => ?_) (fun h => absurd rfl h)
  exact nx σ2 τ2 H locs ls hR2 hP hD hS hl
set_option maxRecDepth 100000 in
set_option maxHeartbeats 4000000 in
theorem lc_down (C : LX p s m meth c b Ln xs D cI cZ cS zz) (hs : S_down Rel) (ad bd : Nat → Nat) (i : Nat) (x3 : Int32) (hi : ∀ k : Nat, k < 6 → vp_in (x3 + nI k) Ln ∧ (x3 + nI k).toNatClampNeg = i + k) (nx : ∀ (σ τ : SS) (H : Heap) (locs : List Loc) (ls : Array Slot), Rel σ τ → va_P D vwCl (wL cI cZ cS ad bd σ τ) H → va_D (lA s) (wL cI cZ cS ad bd σ τ) → va_S (lA s) s.heap H locs → lv_has ls 4 [(0, .ref b), (1, .ref (ad 0)), (2, .ref (bd 0)), (3, .int x3)] → W p l e room_1 s m #[Value.ref b] below meth c H locs 84 5639 (lw_Z below #[Value.ref b] s) (F0 m 1589 ls [])) (σ τ : SS) (H : Heap) (locs : List Loc) (ls : Array Slot) (hR : Rel σ τ) (hP : va_P D vwCl (wL cI cZ cS ad bd σ τ) H) (hD : va_D (lA s) (wL cI cZ cS ad bd σ τ)) (hS : va_S (lA s) s.heap H locs) (hl : lv_has ls 4 [(0, .ref b), (1, .ref (ad 0)), (2, .ref (bd 0)), (3, .int x3)]) : W p l e room_1 s m #[Value.ref b] below meth c H locs 84 5639 (lw_Z below #[Value.ref b] s) (F0 m 673 ls []) := by
  obtain ⟨hx, hb, hml, hown, hts, hK, hZ, hX, hbl, hlocks, hr⟩ := id C
  have hbA : ¬ lA s b := Nat.not_le.mpr hbl
  have hA : ∀ q, s.heap.size ≤ q → lA s q := fun _ h => h
  obtain ⟨r, σ2, τ2, h1, h2, hR2⟩ := hs σ τ (xs (i + 1)) (xs (i + 2)) hR
  have hf1 : q_ci (pX11_down σ (xs (i + 1)) (xs (i + 2))) (fun τ => τ) (fun x y => some (x, y)) = some (r, σ2) := by rw [h1]; rfl
  have hf2 : q_ci (pX12_down τ (xs (i + 1)) (xs (i + 2))) (fun τ => τ) (fun x y => some (x, y)) = some (r, τ2) := by rw [h2]; rfl
  refine lv_aload_n hx hb dL_law_673 rfl (lv_at hl 1 rfl) ?_
  refine lv_aload_n hx hb dL_law_674 rfl (lv_at hl 0 rfl) ?_
  refine lv_iload_n hx hb dL_law_675 rfl (lv_at hl 3 rfl) ?_
  refine lv_iconst (v := 1) hx hb dL_law_676 (by decide) ?_
  refine lv_iadd hx hb dL_law_677 ?_
  refine va_sld hx hb hX hbl hbA hS (hi 1 (by decide)).1 dL_law_678 ?_
  refine W.eq (g2 := F0 m 679 ls [.int (xs (i + 1)), .ref (ad 0)]) (congrArg (fun z => F0 m 679 ls (.int (xs z) :: [.ref (ad 0)])) (hi 1 (by decide)).2) ?_
  refine lv_aload_n hx hb dL_law_679 rfl (lv_at hl 0 rfl) ?_
  refine lv_iload_n hx hb dL_law_680 rfl (lv_at hl 3 rfl) ?_
  refine lv_iconst (v := 2) hx hb dL_law_681 (by decide) ?_
  refine lv_iadd hx hb dL_law_682 ?_
  refine va_sld hx hb hX hbl hbA hS (hi 2 (by decide)).1 dL_law_683 ?_
  refine W.eq (g2 := F0 m 684 ls [.int (xs (i + 2)), .int (xs (i + 1)), .ref (ad 0)]) (congrArg (fun z => F0 m 684 ls (.int (xs z) :: [.int (xs (i + 1)), .ref (ad 0)])) (hi 2 (by decide)).2) ?_
  refine q_cVi (wf := (fun (z : SS) => wL cI cZ cS ad bd z τ)) (σ := σ) (wc := wX11 cI cZ cS ad) (σc := σ) (rest := []) ⟨hx, hb, hml, hown, hts⟩ hK hZ hA hP hD hS hf1 (fun x z ho => kX11_down l D cI cZ cS zz ad σ (xs (i + 1)) (xs (i + 2)) x z ho) (cwV 2 hts gl_X11_down rfl rfl rfl (by decide +kernel) ⟨Nat.le_of_ble_eq_true rfl, Nat.le_of_ble_eq_true rfl⟩) isA rfl (inA cI cZ cS ad bd σ τ) plA plA_ok (Nat.le_of_ble_eq_true rfl) (fun z => mxA cI cZ cS ad bd σ τ z) (fun _ => rfl) (fun z => adA cI cZ cS ad bd σ τ z) rfl rfl rfl rfl (hl.1) rfl (Nat.le_of_ble_eq_true rfl) dL_law_684 ⟨Nat.le_of_ble_eq_true rfl, Nat.le_of_ble_eq_true rfl⟩ (fun x z H locs hf hP hD hS => ?_)
  obtain ⟨hq1, hq2⟩ := Prod.mk.inj (Option.some.inj hf)
  rw [hq1]
  rw [hq2] at hP hD
  refine lv_aload_n hx hb dL_law_687 rfl (lv_at hl 2 rfl) ?_
  refine lv_aload_n hx hb dL_law_688 rfl (lv_at hl 0 rfl) ?_
  refine lv_iload_n hx hb dL_law_689 rfl (lv_at hl 3 rfl) ?_
  refine lv_iconst (v := 1) hx hb dL_law_690 (by decide) ?_
  refine lv_iadd hx hb dL_law_691 ?_
  refine va_sld hx hb hX hbl hbA hS (hi 1 (by decide)).1 dL_law_692 ?_
  refine W.eq (g2 := F0 m 693 ls [.int (xs (i + 1)), .ref (bd 0), .int r]) (congrArg (fun z => F0 m 693 ls (.int (xs z) :: [.ref (bd 0), .int r])) (hi 1 (by decide)).2) ?_
  refine lv_aload_n hx hb dL_law_693 rfl (lv_at hl 0 rfl) ?_
  refine lv_iload_n hx hb dL_law_694 rfl (lv_at hl 3 rfl) ?_
  refine lv_iconst (v := 2) hx hb dL_law_695 (by decide) ?_
  refine lv_iadd hx hb dL_law_696 ?_
  refine va_sld hx hb hX hbl hbA hS (hi 2 (by decide)).1 dL_law_697 ?_
  refine W.eq (g2 := F0 m 698 ls [.int (xs (i + 2)), .int (xs (i + 1)), .ref (bd 0), .int r]) (congrArg (fun z => F0 m 698 ls (.int (xs z) :: [.int (xs (i + 1)), .ref (bd 0), .int r])) (hi 2 (by decide)).2) ?_
  refine q_cVi (wf := (fun (z : SS) => wL cI cZ cS ad bd σ2 z)) (σ := τ) (wc := wX12 cI cZ cS bd) (σc := τ) (rest := [.int r]) ⟨hx, hb, hml, hown, hts⟩ hK hZ hA hP hD hS hf2 (fun x z ho => kX12_down l D cI cZ cS zz bd τ (xs (i + 1)) (xs (i + 2)) x z ho) (cwV 2 hts gl_X12_down rfl rfl rfl (by decide +kernel) ⟨Nat.le_of_ble_eq_true rfl, Nat.le_of_ble_eq_true rfl⟩) isB rfl (inB cI cZ cS ad bd σ2 τ) plB plB_ok (Nat.le_of_ble_eq_true rfl) (fun z => mxB cI cZ cS ad bd σ2 τ z) (fun _ => rfl) (fun z => adB cI cZ cS ad bd σ2 τ z) rfl rfl rfl rfl (hl.1) rfl (Nat.le_of_ble_eq_true rfl) dL_law_698 ⟨Nat.le_of_ble_eq_true rfl, Nat.le_of_ble_eq_true rfl⟩ (fun x z H locs hf hP hD hS => ?_)
  obtain ⟨hq1, hq2⟩ := Prod.mk.inj (Option.some.inj hf)
  rw [hq1]
  rw [hq2] at hP hD
  refine lv_icmp_eq (tgt := 1589) hx hb dL_law_701 (by decide) (fun _ => ?_) (fun h => absurd rfl h)
  exact nx σ2 τ2 H locs ls hR2 hP hD hS hl
set_option maxRecDepth 100000 in
set_option maxHeartbeats 4000000 in
theorem lc_harm (C : LX p s m meth c b Ln xs D cI cZ cS zz) (hs : S_harm Rel) (ad bd : Nat → Nat) (i : Nat) (x3 : Int32) (hi : ∀ k : Nat, k < 6 → vp_in (x3 + nI k) Ln ∧ (x3 + nI k).toNatClampNeg = i + k) (nx : ∀ (σ τ : SS) (H : Heap) (locs : List Loc) (ls : Array Slot), Rel σ τ → va_P D vwCl (wL cI cZ cS ad bd σ τ) H → va_D (lA s) (wL cI cZ cS ad bd σ τ) → va_S (lA s) s.heap H locs → lv_has ls 4 [(0, .ref b), (1, .ref (ad 0)), (2, .ref (bd 0)), (3, .int x3)] → W p l e room_1 s m #[Value.ref b] below meth c H locs 84 5639 (lw_Z below #[Value.ref b] s) (F0 m 1589 ls [])) (σ τ : SS) (H : Heap) (locs : List Loc) (ls : Array Slot) (hR : Rel σ τ) (hP : va_P D vwCl (wL cI cZ cS ad bd σ τ) H) (hD : va_D (lA s) (wL cI cZ cS ad bd σ τ)) (hS : va_S (lA s) s.heap H locs) (hl : lv_has ls 4 [(0, .ref b), (1, .ref (ad 0)), (2, .ref (bd 0)), (3, .int x3)]) : W p l e room_1 s m #[Value.ref b] below meth c H locs 84 5639 (lw_Z below #[Value.ref b] s) (F0 m 706 ls []) := by
  obtain ⟨hx, hb, hml, hown, hts, hK, hZ, hX, hbl, hlocks, hr⟩ := id C
  have hbA : ¬ lA s b := Nat.not_le.mpr hbl
  have hA : ∀ q, s.heap.size ≤ q → lA s q := fun _ h => h
  obtain ⟨r, h1, h2, hR2⟩ := hs σ τ  hR
  have hf1 : q_cr (pX11_harm σ) (fun x => some x) = some r := by rw [h1]; rfl
  have hf2 : q_cr (pX12_harm τ) (fun x => some x) = some r := by rw [h2]; rfl
  refine lv_aload_n hx hb dL_law_706 rfl (lv_at hl 1 rfl) ?_
  refine q_cVr (wf := (fun (z : SS) => wL cI cZ cS ad bd z τ)) (σ := σ) (wc := wX11 cI cZ cS ad) (σc := σ) (rest := []) ⟨hx, hb, hml, hown, hts⟩ hK hZ hA hP hD hS hf1 (fun x ho => kX11_harm l D cI cZ cS zz ad σ  x ho) (cwV 0 hts gl_X11_harm rfl rfl rfl (by decide +kernel) ⟨Nat.le_of_ble_eq_true rfl, Nat.le_of_ble_eq_true rfl⟩) isA rfl (inA cI cZ cS ad bd σ τ) rfl rfl rfl rfl (hl.1) rfl (Nat.le_of_ble_eq_true rfl) dL_law_707 ⟨Nat.le_of_ble_eq_true rfl, Nat.le_of_ble_eq_true rfl⟩ (fun x H locs hf hP hD hS => ?_)
  rw [Option.some.inj hf]
  refine lv_aload_n hx hb dL_law_710 rfl (lv_at hl 2 rfl) ?_
  refine q_cVr (wf := (fun (z : SS) => wL cI cZ cS ad bd σ z)) (σ := τ) (wc := wX12 cI cZ cS bd) (σc := τ) (rest := [.int r]) ⟨hx, hb, hml, hown, hts⟩ hK hZ hA hP hD hS hf2 (fun x ho => kX12_harm l D cI cZ cS zz bd τ  x ho) (cwV 0 hts gl_X12_harm rfl rfl rfl (by decide +kernel) ⟨Nat.le_of_ble_eq_true rfl, Nat.le_of_ble_eq_true rfl⟩) isB rfl (inB cI cZ cS ad bd σ τ) rfl rfl rfl rfl (hl.1) rfl (Nat.le_of_ble_eq_true rfl) dL_law_711 ⟨Nat.le_of_ble_eq_true rfl, Nat.le_of_ble_eq_true rfl⟩ (fun x H locs hf hP hD hS => ?_)
  rw [Option.some.inj hf]
  refine lv_icmp_eq (tgt := 1589) hx hb dL_law_714 (by decide) (fun _ => ?_) (fun h => absurd rfl h)
  exact nx σ τ H locs ls hR2 hP hD hS hl
set_option maxRecDepth 100000 in
set_option maxHeartbeats 4000000 in
theorem lc_feed (C : LX p s m meth c b Ln xs D cI cZ cS zz) (hs : S_feed Rel) (ad bd : Nat → Nat) (i : Nat) (x3 : Int32) (hi : ∀ k : Nat, k < 6 → vp_in (x3 + nI k) Ln ∧ (x3 + nI k).toNatClampNeg = i + k) (nx : ∀ (σ τ : SS) (H : Heap) (locs : List Loc) (ls : Array Slot), Rel σ τ → va_P D vwCl (wL cI cZ cS ad bd σ τ) H → va_D (lA s) (wL cI cZ cS ad bd σ τ) → va_S (lA s) s.heap H locs → lv_has ls 4 [(0, .ref b), (1, .ref (ad 0)), (2, .ref (bd 0)), (3, .int x3)] → W p l e room_1 s m #[Value.ref b] below meth c H locs 84 5639 (lw_Z below #[Value.ref b] s) (F0 m 1589 ls [])) (σ τ : SS) (H : Heap) (locs : List Loc) (ls : Array Slot) (hR : Rel σ τ) (hP : va_P D vwCl (wL cI cZ cS ad bd σ τ) H) (hD : va_D (lA s) (wL cI cZ cS ad bd σ τ)) (hS : va_S (lA s) s.heap H locs) (hl : lv_has ls 4 [(0, .ref b), (1, .ref (ad 0)), (2, .ref (bd 0)), (3, .int x3)]) : W p l e room_1 s m #[Value.ref b] below meth c H locs 84 5639 (lw_Z below #[Value.ref b] s) (F0 m 719 ls []) := by
  obtain ⟨hx, hb, hml, hown, hts, hK, hZ, hX, hbl, hlocks, hr⟩ := id C
  have hbA : ¬ lA s b := Nat.not_le.mpr hbl
  have hA : ∀ q, s.heap.size ≤ q → lA s q := fun _ h => h
  obtain ⟨r, σ2, τ2, h1, h2, hR2⟩ := hs σ τ (xs (i + 1)) (xs (i + 2)) hR
  have hf1 : q_ci (pX11_feed σ (xs (i + 1)) (xs (i + 2))) (fun τ => τ) (fun x y => some (x, y)) = some (r, σ2) := by rw [h1]; rfl
  have hf2 : q_ci (pX12_feed τ (xs (i + 1)) (xs (i + 2))) (fun τ => τ) (fun x y => some (x, y)) = some (r, τ2) := by rw [h2]; rfl
  refine lv_aload_n hx hb dL_law_719 rfl (lv_at hl 1 rfl) ?_
  refine lv_aload_n hx hb dL_law_720 rfl (lv_at hl 0 rfl) ?_
  refine lv_iload_n hx hb dL_law_721 rfl (lv_at hl 3 rfl) ?_
  refine lv_iconst (v := 1) hx hb dL_law_722 (by decide) ?_
  refine lv_iadd hx hb dL_law_723 ?_
  refine va_sld hx hb hX hbl hbA hS (hi 1 (by decide)).1 dL_law_724 ?_
  refine W.eq (g2 := F0 m 725 ls [.int (xs (i + 1)), .ref (ad 0)]) (congrArg (fun z => F0 m 725 ls (.int (xs z) :: [.ref (ad 0)])) (hi 1 (by decide)).2) ?_
  refine lv_aload_n hx hb dL_law_725 rfl (lv_at hl 0 rfl) ?_
  refine lv_iload_n hx hb dL_law_726 rfl (lv_at hl 3 rfl) ?_
  refine lv_iconst (v := 2) hx hb dL_law_727 (by decide) ?_
  refine lv_iadd hx hb dL_law_728 ?_
  refine va_sld hx hb hX hbl hbA hS (hi 2 (by decide)).1 dL_law_729 ?_
  refine W.eq (g2 := F0 m 730 ls [.int (xs (i + 2)), .int (xs (i + 1)), .ref (ad 0)]) (congrArg (fun z => F0 m 730 ls (.int (xs z) :: [.int (xs (i + 1)), .ref (ad 0)])) (hi 2 (by decide)).2) ?_
  refine q_cVi (wf := (fun (z : SS) => wL cI cZ cS ad bd z τ)) (σ := σ) (wc := wX11 cI cZ cS ad) (σc := σ) (rest := []) ⟨hx, hb, hml, hown, hts⟩ hK hZ hA hP hD hS hf1 (fun x z ho => kX11_feed l D cI cZ cS zz ad σ (xs (i + 1)) (xs (i + 2)) x z ho) (cwV 2 hts gl_X11_feed rfl rfl rfl (by decide +kernel) ⟨Nat.le_of_ble_eq_true rfl, Nat.le_of_ble_eq_true rfl⟩) isA rfl (inA cI cZ cS ad bd σ τ) plA plA_ok (Nat.le_of_ble_eq_true rfl) (fun z => mxA cI cZ cS ad bd σ τ z) (fun _ => rfl) (fun z => adA cI cZ cS ad bd σ τ z) rfl rfl rfl rfl (hl.1) rfl (Nat.le_of_ble_eq_true rfl) dL_law_730 ⟨Nat.le_of_ble_eq_true rfl, Nat.le_of_ble_eq_true rfl⟩ (fun x z H locs hf hP hD hS => ?_)
  obtain ⟨hq1, hq2⟩ := Prod.mk.inj (Option.some.inj hf)
  rw [hq1]
  rw [hq2] at hP hD
  refine lv_aload_n hx hb dL_law_733 rfl (lv_at hl 2 rfl) ?_
  refine lv_aload_n hx hb dL_law_734 rfl (lv_at hl 0 rfl) ?_
  refine lv_iload_n hx hb dL_law_735 rfl (lv_at hl 3 rfl) ?_
  refine lv_iconst (v := 1) hx hb dL_law_736 (by decide) ?_
  refine lv_iadd hx hb dL_law_737 ?_
  refine va_sld hx hb hX hbl hbA hS (hi 1 (by decide)).1 dL_law_738 ?_
  refine W.eq (g2 := F0 m 739 ls [.int (xs (i + 1)), .ref (bd 0), .int r]) (congrArg (fun z => F0 m 739 ls (.int (xs z) :: [.ref (bd 0), .int r])) (hi 1 (by decide)).2) ?_
  refine lv_aload_n hx hb dL_law_739 rfl (lv_at hl 0 rfl) ?_
  refine lv_iload_n hx hb dL_law_740 rfl (lv_at hl 3 rfl) ?_
  refine lv_iconst (v := 2) hx hb dL_law_741 (by decide) ?_
  refine lv_iadd hx hb dL_law_742 ?_
  refine va_sld hx hb hX hbl hbA hS (hi 2 (by decide)).1 dL_law_743 ?_
  refine W.eq (g2 := F0 m 744 ls [.int (xs (i + 2)), .int (xs (i + 1)), .ref (bd 0), .int r]) (congrArg (fun z => F0 m 744 ls (.int (xs z) :: [.int (xs (i + 1)), .ref (bd 0), .int r])) (hi 2 (by decide)).2) ?_
  refine q_cVi (wf := (fun (z : SS) => wL cI cZ cS ad bd σ2 z)) (σ := τ) (wc := wX12 cI cZ cS bd) (σc := τ) (rest := [.int r]) ⟨hx, hb, hml, hown, hts⟩ hK hZ hA hP hD hS hf2 (fun x z ho => kX12_feed l D cI cZ cS zz bd τ (xs (i + 1)) (xs (i + 2)) x z ho) (cwV 2 hts gl_X12_feed rfl rfl rfl (by decide +kernel) ⟨Nat.le_of_ble_eq_true rfl, Nat.le_of_ble_eq_true rfl⟩) isB rfl (inB cI cZ cS ad bd σ2 τ) plB plB_ok (Nat.le_of_ble_eq_true rfl) (fun z => mxB cI cZ cS ad bd σ2 τ z) (fun _ => rfl) (fun z => adB cI cZ cS ad bd σ2 τ z) rfl rfl rfl rfl (hl.1) rfl (Nat.le_of_ble_eq_true rfl) dL_law_744 ⟨Nat.le_of_ble_eq_true rfl, Nat.le_of_ble_eq_true rfl⟩ (fun x z H locs hf hP hD hS => ?_)
  obtain ⟨hq1, hq2⟩ := Prod.mk.inj (Option.some.inj hf)
  rw [hq1]
  rw [hq2] at hP hD
  refine lv_icmp_eq (tgt := 1589) hx hb dL_law_747 (by decide) (fun _ => ?_) (fun h => absurd rfl h)
  exact nx σ2 τ2 H locs ls hR2 hP hD hS hl
set_option maxRecDepth 100000 in
set_option maxHeartbeats 4000000 in
theorem lc_wipe (C : LX p s m meth c b Ln xs D cI cZ cS zz) (hs : S_wipe Rel) (ad bd : Nat → Nat) (i : Nat) (x3 : Int32) (hi : ∀ k : Nat, k < 6 → vp_in (x3 + nI k) Ln ∧ (x3 + nI k).toNatClampNeg = i + k) (nx : ∀ (σ τ : SS) (H : Heap) (locs : List Loc) (ls : Array Slot), Rel σ τ → va_P D vwCl (wL cI cZ cS ad bd σ τ) H → va_D (lA s) (wL cI cZ cS ad bd σ τ) → va_S (lA s) s.heap H locs → lv_has ls 4 [(0, .ref b), (1, .ref (ad 0)), (2, .ref (bd 0)), (3, .int x3)] → W p l e room_1 s m #[Value.ref b] below meth c H locs 84 5639 (lw_Z below #[Value.ref b] s) (F0 m 1589 ls [])) (σ τ : SS) (H : Heap) (locs : List Loc) (ls : Array Slot) (hR : Rel σ τ) (hP : va_P D vwCl (wL cI cZ cS ad bd σ τ) H) (hD : va_D (lA s) (wL cI cZ cS ad bd σ τ)) (hS : va_S (lA s) s.heap H locs) (hl : lv_has ls 4 [(0, .ref b), (1, .ref (ad 0)), (2, .ref (bd 0)), (3, .int x3)]) : W p l e room_1 s m #[Value.ref b] below meth c H locs 84 5639 (lw_Z below #[Value.ref b] s) (F0 m 752 ls []) := by
  obtain ⟨hx, hb, hml, hown, hts, hK, hZ, hX, hbl, hlocks, hr⟩ := id C
  have hbA : ¬ lA s b := Nat.not_le.mpr hbl
  have hA : ∀ q, s.heap.size ≤ q → lA s q := fun _ h => h
  obtain ⟨r, σ2, τ2, h1, h2, hR2⟩ := hs σ τ  hR
  have hf1 : q_ci (pX11_wipe σ) (fun τ => τ) (fun x y => some (x, y)) = some (r, σ2) := by rw [h1]; rfl
  have hf2 : q_ci (pX12_wipe τ) (fun τ => τ) (fun x y => some (x, y)) = some (r, τ2) := by rw [h2]; rfl
  refine lv_aload_n hx hb dL_law_752 rfl (lv_at hl 1 rfl) ?_
  refine q_cVi (wf := (fun (z : SS) => wL cI cZ cS ad bd z τ)) (σ := σ) (wc := wX11 cI cZ cS ad) (σc := σ) (rest := []) ⟨hx, hb, hml, hown, hts⟩ hK hZ hA hP hD hS hf1 (fun x z ho => kX11_wipe l D cI cZ cS zz ad σ  x z ho) (cwV 0 hts gl_X11_wipe rfl rfl rfl (by decide +kernel) ⟨Nat.le_of_ble_eq_true rfl, Nat.le_of_ble_eq_true rfl⟩) isA rfl (inA cI cZ cS ad bd σ τ) plA plA_ok (Nat.le_of_ble_eq_true rfl) (fun z => mxA cI cZ cS ad bd σ τ z) (fun _ => rfl) (fun z => adA cI cZ cS ad bd σ τ z) rfl rfl rfl rfl (hl.1) rfl (Nat.le_of_ble_eq_true rfl) dL_law_753 ⟨Nat.le_of_ble_eq_true rfl, Nat.le_of_ble_eq_true rfl⟩ (fun x z H locs hf hP hD hS => ?_)
  obtain ⟨hq1, hq2⟩ := Prod.mk.inj (Option.some.inj hf)
  rw [hq1]
  rw [hq2] at hP hD
  refine lv_aload_n hx hb dL_law_756 rfl (lv_at hl 2 rfl) ?_
  refine q_cVi (wf := (fun (z : SS) => wL cI cZ cS ad bd σ2 z)) (σ := τ) (wc := wX12 cI cZ cS bd) (σc := τ) (rest := [.int r]) ⟨hx, hb, hml, hown, hts⟩ hK hZ hA hP hD hS hf2 (fun x z ho => kX12_wipe l D cI cZ cS zz bd τ  x z ho) (cwV 0 hts gl_X12_wipe rfl rfl rfl (by decide +kernel) ⟨Nat.le_of_ble_eq_true rfl, Nat.le_of_ble_eq_true rfl⟩) isB rfl (inB cI cZ cS ad bd σ2 τ) plB plB_ok (Nat.le_of_ble_eq_true rfl) (fun z => mxB cI cZ cS ad bd σ2 τ z) (fun _ => rfl) (fun z => adB cI cZ cS ad bd σ2 τ z) rfl rfl rfl rfl (hl.1) rfl (Nat.le_of_ble_eq_true rfl) dL_law_757 ⟨Nat.le_of_ble_eq_true rfl, Nat.le_of_ble_eq_true rfl⟩ (fun x z H locs hf hP hD hS => ?_)
  obtain ⟨hq1, hq2⟩ := Prod.mk.inj (Option.some.inj hf)
  rw [hq1]
  rw [hq2] at hP hD
  refine lv_icmp_eq (tgt := 1589) hx hb dL_law_760 (by decide) (fun _ => ?_) (fun h => absurd rfl h)
  exact nx σ2 τ2 H locs ls hR2 hP hD hS hl
set_option maxRecDepth 100000 in
set_option maxHeartbeats 4000000 in
theorem lc_sky (C : LX p s m meth c b Ln xs D cI cZ cS zz) (hs : S_sky Rel) (ad bd : Nat → Nat) (i : Nat) (x3 : Int32) (hi : ∀ k : Nat, k < 6 → vp_in (x3 + nI k) Ln ∧ (x3 + nI k).toNatClampNeg = i + k) (nx : ∀ (σ τ : SS) (H : Heap) (locs : List Loc) (ls : Array Slot), Rel σ τ → va_P D vwCl (wL cI cZ cS ad bd σ τ) H → va_D (lA s) (wL cI cZ cS ad bd σ τ) → va_S (lA s) s.heap H locs → lv_has ls 4 [(0, .ref b), (1, .ref (ad 0)), (2, .ref (bd 0)), (3, .int x3)] → W p l e room_1 s m #[Value.ref b] below meth c H locs 84 5639 (lw_Z below #[Value.ref b] s) (F0 m 1589 ls [])) (σ τ : SS) (H : Heap) (locs : List Loc) (ls : Array Slot) (hR : Rel σ τ) (hP : va_P D vwCl (wL cI cZ cS ad bd σ τ) H) (hD : va_D (lA s) (wL cI cZ cS ad bd σ τ)) (hS : va_S (lA s) s.heap H locs) (hl : lv_has ls 4 [(0, .ref b), (1, .ref (ad 0)), (2, .ref (bd 0)), (3, .int x3)]) : W p l e room_1 s m #[Value.ref b] below meth c H locs 84 5639 (lw_Z below #[Value.ref b] s) (F0 m 765 ls []) := by
  obtain ⟨hx, hb, hml, hown, hts, hK, hZ, hX, hbl, hlocks, hr⟩ := id C
  have hbA : ¬ lA s b := Nat.not_le.mpr hbl
  have hA : ∀ q, s.heap.size ≤ q → lA s q := fun _ h => h
  obtain ⟨r, σ2, τ2, h1, h2, hR2⟩ := hs σ τ  hR
  have hf1 : q_ci (pX11_sky σ) (fun τ => τ) (fun x y => some (x, y)) = some (r, σ2) := by rw [h1]; rfl
  have hf2 : q_ci (pX12_sky τ) (fun τ => τ) (fun x y => some (x, y)) = some (r, τ2) := by rw [h2]; rfl
  refine lv_aload_n hx hb dL_law_765 rfl (lv_at hl 1 rfl) ?_
  refine q_cVi (wf := (fun (z : SS) => wL cI cZ cS ad bd z τ)) (σ := σ) (wc := wX11 cI cZ cS ad) (σc := σ) (rest := []) ⟨hx, hb, hml, hown, hts⟩ hK hZ hA hP hD hS hf1 (fun x z ho => kX11_sky l D cI cZ cS zz ad σ  x z ho) (cwV 0 hts gl_X11_sky rfl rfl rfl (by decide +kernel) ⟨Nat.le_of_ble_eq_true rfl, Nat.le_of_ble_eq_true rfl⟩) isA rfl (inA cI cZ cS ad bd σ τ) plA plA_ok (Nat.le_of_ble_eq_true rfl) (fun z => mxA cI cZ cS ad bd σ τ z) (fun _ => rfl) (fun z => adA cI cZ cS ad bd σ τ z) rfl rfl rfl rfl (hl.1) rfl (Nat.le_of_ble_eq_true rfl) dL_law_766 ⟨Nat.le_of_ble_eq_true rfl, Nat.le_of_ble_eq_true rfl⟩ (fun x z H locs hf hP hD hS => ?_)
  obtain ⟨hq1, hq2⟩ := Prod.mk.inj (Option.some.inj hf)
  rw [hq1]
  rw [hq2] at hP hD
  refine lv_aload_n hx hb dL_law_769 rfl (lv_at hl 2 rfl) ?_
  refine q_cVi (wf := (fun (z : SS) => wL cI cZ cS ad bd σ2 z)) (σ := τ) (wc := wX12 cI cZ cS bd) (σc := τ) (rest := [.int r]) ⟨hx, hb, hml, hown, hts⟩ hK hZ hA hP hD hS hf2 (fun x z ho => kX12_sky l D cI cZ cS zz bd τ  x z ho) (cwV 0 hts gl_X12_sky rfl rfl rfl (by decide +kernel) ⟨Nat.le_of_ble_eq_true rfl, Nat.le_of_ble_eq_true rfl⟩) isB rfl (inB cI cZ cS ad bd σ2 τ) plB plB_ok (Nat.le_of_ble_eq_true rfl) (fun z => mxB cI cZ cS ad bd σ2 τ z) (fun _ => rfl) (fun z => adB cI cZ cS ad bd σ2 τ z) rfl rfl rfl rfl (hl.1) rfl (Nat.le_of_ble_eq_true rfl) dL_law_770 ⟨Nat.le_of_ble_eq_true rfl, Nat.le_of_ble_eq_true rfl⟩ (fun x z H locs hf hP hD hS => ?_)
  obtain ⟨hq1, hq2⟩ := Prod.mk.inj (Option.some.inj hf)
  rw [hq1]
  rw [hq2] at hP hD
  refine lv_icmp_eq (tgt := 1589) hx hb dL_law_773 (by decide) (fun _ => ?_) (fun h => absurd rfl h)
  exact nx σ2 τ2 H locs ls hR2 hP hD hS hl
set_option maxRecDepth 100000 in
set_option maxHeartbeats 4000000 in
theorem lc_skyOf (C : LX p s m meth c b Ln xs D cI cZ cS zz) (hs : S_skyOf Rel) (ad bd : Nat → Nat) (i : Nat) (x3 : Int32) (hi : ∀ k : Nat, k < 6 → vp_in (x3 + nI k) Ln ∧ (x3 + nI k).toNatClampNeg = i + k) (nx : ∀ (σ τ : SS) (H : Heap) (locs : List Loc) (ls : Array Slot), Rel σ τ → va_P D vwCl (wL cI cZ cS ad bd σ τ) H → va_D (lA s) (wL cI cZ cS ad bd σ τ) → va_S (lA s) s.heap H locs → lv_has ls 4 [(0, .ref b), (1, .ref (ad 0)), (2, .ref (bd 0)), (3, .int x3)] → W p l e room_1 s m #[Value.ref b] below meth c H locs 84 5639 (lw_Z below #[Value.ref b] s) (F0 m 1589 ls [])) (σ τ : SS) (H : Heap) (locs : List Loc) (ls : Array Slot) (hR : Rel σ τ) (hP : va_P D vwCl (wL cI cZ cS ad bd σ τ) H) (hD : va_D (lA s) (wL cI cZ cS ad bd σ τ)) (hS : va_S (lA s) s.heap H locs) (hl : lv_has ls 4 [(0, .ref b), (1, .ref (ad 0)), (2, .ref (bd 0)), (3, .int x3)]) : W p l e room_1 s m #[Value.ref b] below meth c H locs 84 5639 (lw_Z below #[Value.ref b] s) (F0 m 778 ls []) := by
  obtain ⟨hx, hb, hml, hown, hts, hK, hZ, hX, hbl, hlocks, hr⟩ := id C
  have hbA : ¬ lA s b := Nat.not_le.mpr hbl
  have hA : ∀ q, s.heap.size ≤ q → lA s q := fun _ h => h
  obtain ⟨r, σ2, τ2, h1, h2, hR2⟩ := hs σ τ (xs (i + 1)) (xs (i + 2)) hR
  have hf1 : q_ci (pX11_skyOf σ (xs (i + 1)) (xs (i + 2))) (fun τ => τ) (fun x y => some (x, y)) = some (r, σ2) := by rw [h1]; rfl
  have hf2 : q_ci (pX12_skyOf τ (xs (i + 1)) (xs (i + 2))) (fun τ => τ) (fun x y => some (x, y)) = some (r, τ2) := by rw [h2]; rfl
  refine lv_aload_n hx hb dL_law_778 rfl (lv_at hl 1 rfl) ?_
  refine lv_aload_n hx hb dL_law_779 rfl (lv_at hl 0 rfl) ?_
  refine lv_iload_n hx hb dL_law_780 rfl (lv_at hl 3 rfl) ?_
  refine lv_iconst (v := 1) hx hb dL_law_781 (by decide) ?_
  refine lv_iadd hx hb dL_law_782 ?_
  refine va_sld hx hb hX hbl hbA hS (hi 1 (by decide)).1 dL_law_783 ?_
  refine W.eq (g2 := F0 m 784 ls [.int (xs (i + 1)), .ref (ad 0)]) (congrArg (fun z => F0 m 784 ls (.int (xs z) :: [.ref (ad 0)])) (hi 1 (by decide)).2) ?_
  refine lv_aload_n hx hb dL_law_784 rfl (lv_at hl 0 rfl) ?_
  refine lv_iload_n hx hb dL_law_785 rfl (lv_at hl 3 rfl) ?_
  refine lv_iconst (v := 2) hx hb dL_law_786 (by decide) ?_
  refine lv_iadd hx hb dL_law_787 ?_
  refine va_sld hx hb hX hbl hbA hS (hi 2 (by decide)).1 dL_law_788 ?_
  refine W.eq (g2 := F0 m 789 ls [.int (xs (i + 2)), .int (xs (i + 1)), .ref (ad 0)]) (congrArg (fun z => F0 m 789 ls (.int (xs z) :: [.int (xs (i + 1)), .ref (ad 0)])) (hi 2 (by decide)).2) ?_
  refine q_cVi (wf := (fun (z : SS) => wL cI cZ cS ad bd z τ)) (σ := σ) (wc := wX11 cI cZ cS ad) (σc := σ) (rest := []) ⟨hx, hb, hml, hown, hts⟩ hK hZ hA hP hD hS hf1 (fun x z ho => kX11_skyOf l D cI cZ cS zz ad σ (xs (i + 1)) (xs (i + 2)) x z ho) (cwV 2 hts gl_X11_skyOf rfl rfl rfl (by decide +kernel) ⟨Nat.le_of_ble_eq_true rfl, Nat.le_of_ble_eq_true rfl⟩) isA rfl (inA cI cZ cS ad bd σ τ) plA plA_ok (Nat.le_of_ble_eq_true rfl) (fun z => mxA cI cZ cS ad bd σ τ z) (fun _ => rfl) (fun z => adA cI cZ cS ad bd σ τ z) rfl rfl rfl rfl (hl.1) rfl (Nat.le_of_ble_eq_true rfl) dL_law_789 ⟨Nat.le_of_ble_eq_true rfl, Nat.le_of_ble_eq_true rfl⟩ (fun x z H locs hf hP hD hS => ?_)
  obtain ⟨hq1, hq2⟩ := Prod.mk.inj (Option.some.inj hf)
  rw [hq1]
  rw [hq2] at hP hD
  refine lv_aload_n hx hb dL_law_792 rfl (lv_at hl 2 rfl) ?_
  refine lv_aload_n hx hb dL_law_793 rfl (lv_at hl 0 rfl) ?_
  refine lv_iload_n hx hb dL_law_794 rfl (lv_at hl 3 rfl) ?_
  refine lv_iconst (v := 1) hx hb dL_law_795 (by decide) ?_
  refine lv_iadd hx hb dL_law_796 ?_
  refine va_sld hx hb hX hbl hbA hS (hi 1 (by decide)).1 dL_law_797 ?_
  refine W.eq (g2 := F0 m 798 ls [.int (xs (i + 1)), .ref (bd 0), .int r]) (congrArg (fun z => F0 m 798 ls (.int (xs z) :: [.ref (bd 0), .int r])) (hi 1 (by decide)).2) ?_
  refine lv_aload_n hx hb dL_law_798 rfl (lv_at hl 0 rfl) ?_
  refine lv_iload_n hx hb dL_law_799 rfl (lv_at hl 3 rfl) ?_
  refine lv_iconst (v := 2) hx hb dL_law_800 (by decide) ?_
  refine lv_iadd hx hb dL_law_801 ?_
  refine va_sld hx hb hX hbl hbA hS (hi 2 (by decide)).1 dL_law_802 ?_
  refine W.eq (g2 := F0 m 803 ls [.int (xs (i + 2)), .int (xs (i + 1)), .ref (bd 0), .int r]) (congrArg (fun z => F0 m 803 ls (.int (xs z) :: [.int (xs (i + 1)), .ref (bd 0), .int r])) (hi 2 (by decide)).2) ?_
  refine q_cVi (wf := (fun (z : SS) => wL cI cZ cS ad bd σ2 z)) (σ := τ) (wc := wX12 cI cZ cS bd) (σc := τ) (rest := [.int r]) ⟨hx, hb, hml, hown, hts⟩ hK hZ hA hP hD hS hf2 (fun x z ho => kX12_skyOf l D cI cZ cS zz bd τ (xs (i + 1)) (xs (i + 2)) x z ho) (cwV 2 hts gl_X12_skyOf rfl rfl rfl (by decide +kernel) ⟨Nat.le_of_ble_eq_true rfl, Nat.le_of_ble_eq_true rfl⟩) isB rfl (inB cI cZ cS ad bd σ2 τ) plB plB_ok (Nat.le_of_ble_eq_true rfl) (fun z => mxB cI cZ cS ad bd σ2 τ z) (fun _ => rfl) (fun z => adB cI cZ cS ad bd σ2 τ z) rfl rfl rfl rfl (hl.1) rfl (Nat.le_of_ble_eq_true rfl) dL_law_803 ⟨Nat.le_of_ble_eq_true rfl, Nat.le_of_ble_eq_true rfl⟩ (fun x z H locs hf hP hD hS => ?_)
  obtain ⟨hq1, hq2⟩ := Prod.mk.inj (Option.some.inj hf)
  rw [hq1]
  rw [hq2] at hP hD
  refine lv_icmp_eq (tgt := 1589) hx hb dL_law_806 (by decide) (fun _ => ?_) (fun h => absurd rfl h)
  exact nx σ2 τ2 H locs ls hR2 hP hD hS hl
set_option maxRecDepth 100000 in
set_option maxHeartbeats 4000000 in
theorem lc_play (C : LX p s m meth c b Ln xs D cI cZ cS zz) (hs : S_play Rel) (ad bd : Nat → Nat) (i : Nat) (x3 : Int32) (hi : ∀ k : Nat, k < 6 → vp_in (x3 + nI k) Ln ∧ (x3 + nI k).toNatClampNeg = i + k) (nx : ∀ (σ τ : SS) (H : Heap) (locs : List Loc) (ls : Array Slot), Rel σ τ → va_P D vwCl (wL cI cZ cS ad bd σ τ) H → va_D (lA s) (wL cI cZ cS ad bd σ τ) → va_S (lA s) s.heap H locs → lv_has ls 4 [(0, .ref b), (1, .ref (ad 0)), (2, .ref (bd 0)), (3, .int x3)] → W p l e room_1 s m #[Value.ref b] below meth c H locs 84 5639 (lw_Z below #[Value.ref b] s) (F0 m 1589 ls [])) (σ τ : SS) (H : Heap) (locs : List Loc) (ls : Array Slot) (hR : Rel σ τ) (hP : va_P D vwCl (wL cI cZ cS ad bd σ τ) H) (hD : va_D (lA s) (wL cI cZ cS ad bd σ τ)) (hS : va_S (lA s) s.heap H locs) (hl : lv_has ls 4 [(0, .ref b), (1, .ref (ad 0)), (2, .ref (bd 0)), (3, .int x3)]) : W p l e room_1 s m #[Value.ref b] below meth c H locs 84 5639 (lw_Z below #[Value.ref b] s) (F0 m 811 ls []) := by
  obtain ⟨hx, hb, hml, hown, hts, hK, hZ, hX, hbl, hlocks, hr⟩ := id C
  have hbA : ¬ lA s b := Nat.not_le.mpr hbl
  have hA : ∀ q, s.heap.size ≤ q → lA s q := fun _ h => h
  obtain ⟨r, σ2, τ2, h1, h2, hR2⟩ := hs σ τ (xs (i + 1)) hR
  have hf1 : q_ci (pX11_play σ (xs (i + 1))) (fun τ => τ) (fun x y => some (x, y)) = some (r, σ2) := by rw [h1]; rfl
  have hf2 : q_ci (pX12_play τ (xs (i + 1))) (fun τ => τ) (fun x y => some (x, y)) = some (r, τ2) := by rw [h2]; rfl
  refine lv_aload_n hx hb dL_law_811 rfl (lv_at hl 1 rfl) ?_
  refine lv_aload_n hx hb dL_law_812 rfl (lv_at hl 0 rfl) ?_
  refine lv_iload_n hx hb dL_law_813 rfl (lv_at hl 3 rfl) ?_
  refine lv_iconst (v := 1) hx hb dL_law_814 (by decide) ?_
  refine lv_iadd hx hb dL_law_815 ?_
  refine va_sld hx hb hX hbl hbA hS (hi 1 (by decide)).1 dL_law_816 ?_
  refine W.eq (g2 := F0 m 817 ls [.int (xs (i + 1)), .ref (ad 0)]) (congrArg (fun z => F0 m 817 ls (.int (xs z) :: [.ref (ad 0)])) (hi 1 (by decide)).2) ?_
  refine q_cVi (wf := (fun (z : SS) => wL cI cZ cS ad bd z τ)) (σ := σ) (wc := wX11 cI cZ cS ad) (σc := σ) (rest := []) ⟨hx, hb, hml, hown, hts⟩ hK hZ hA hP hD hS hf1 (fun x z ho => kX11_play l D cI cZ cS zz ad σ (xs (i + 1)) x z ho) (cwV 1 hts gl_X11_play rfl rfl rfl (by decide +kernel) ⟨Nat.le_of_ble_eq_true rfl, Nat.le_of_ble_eq_true rfl⟩) isA rfl (inA cI cZ cS ad bd σ τ) plA plA_ok (Nat.le_of_ble_eq_true rfl) (fun z => mxA cI cZ cS ad bd σ τ z) (fun _ => rfl) (fun z => adA cI cZ cS ad bd σ τ z) rfl rfl rfl rfl (hl.1) rfl (Nat.le_of_ble_eq_true rfl) dL_law_817 ⟨Nat.le_of_ble_eq_true rfl, Nat.le_of_ble_eq_true rfl⟩ (fun x z H locs hf hP hD hS => ?_)
  obtain ⟨hq1, hq2⟩ := Prod.mk.inj (Option.some.inj hf)
  rw [hq1]
  rw [hq2] at hP hD
  refine lv_aload_n hx hb dL_law_820 rfl (lv_at hl 2 rfl) ?_
  refine lv_aload_n hx hb dL_law_821 rfl (lv_at hl 0 rfl) ?_
  refine lv_iload_n hx hb dL_law_822 rfl (lv_at hl 3 rfl) ?_
  refine lv_iconst (v := 1) hx hb dL_law_823 (by decide) ?_
  refine lv_iadd hx hb dL_law_824 ?_
  refine va_sld hx hb hX hbl hbA hS (hi 1 (by decide)).1 dL_law_825 ?_
  refine W.eq (g2 := F0 m 826 ls [.int (xs (i + 1)), .ref (bd 0), .int r]) (congrArg (fun z => F0 m 826 ls (.int (xs z) :: [.ref (bd 0), .int r])) (hi 1 (by decide)).2) ?_
  refine q_cVi (wf := (fun (z : SS) => wL cI cZ cS ad bd σ2 z)) (σ := τ) (wc := wX12 cI cZ cS bd) (σc := τ) (rest := [.int r]) ⟨hx, hb, hml, hown, hts⟩ hK hZ hA hP hD hS hf2 (fun x z ho => kX12_play l D cI cZ cS zz bd τ (xs (i + 1)) x z ho) (cwV 1 hts gl_X12_play rfl rfl rfl (by decide +kernel) ⟨Nat.le_of_ble_eq_true rfl, Nat.le_of_ble_eq_true rfl⟩) isB rfl (inB cI cZ cS ad bd σ2 τ) plB plB_ok (Nat.le_of_ble_eq_true rfl) (fun z => mxB cI cZ cS ad bd σ2 τ z) (fun _ => rfl) (fun z => adB cI cZ cS ad bd σ2 τ z) rfl rfl rfl rfl (hl.1) rfl (Nat.le_of_ble_eq_true rfl) dL_law_826 ⟨Nat.le_of_ble_eq_true rfl, Nat.le_of_ble_eq_true rfl⟩ (fun x z H locs hf hP hD hS => ?_)
  obtain ⟨hq1, hq2⟩ := Prod.mk.inj (Option.some.inj hf)
  rw [hq1]
  rw [hq2] at hP hD
  refine lv_icmp_eq (tgt := 1589) hx hb dL_law_829 (by decide) (fun _ => ?_) (fun h => absurd rfl h)
  exact nx σ2 τ2 H locs ls hR2 hP hD hS hl
set_option maxRecDepth 100000 in
set_option maxHeartbeats 4000000 in
theorem lc_ahead (C : LX p s m meth c b Ln xs D cI cZ cS zz) (hs : S_ahead Rel) (ad bd : Nat → Nat) (i : Nat) (x3 : Int32) (hi : ∀ k : Nat, k < 6 → vp_in (x3 + nI k) Ln ∧ (x3 + nI k).toNatClampNeg = i + k) (nx : ∀ (σ τ : SS) (H : Heap) (locs : List Loc) (ls : Array Slot), Rel σ τ → va_P D vwCl (wL cI cZ cS ad bd σ τ) H → va_D (lA s) (wL cI cZ cS ad bd σ τ) → va_S (lA s) s.heap H locs → lv_has ls 4 [(0, .ref b), (1, .ref (ad 0)), (2, .ref (bd 0)), (3, .int x3)] → W p l e room_1 s m #[Value.ref b] below meth c H locs 84 5639 (lw_Z below #[Value.ref b] s) (F0 m 1589 ls [])) (σ τ : SS) (H : Heap) (locs : List Loc) (ls : Array Slot) (hR : Rel σ τ) (hP : va_P D vwCl (wL cI cZ cS ad bd σ τ) H) (hD : va_D (lA s) (wL cI cZ cS ad bd σ τ)) (hS : va_S (lA s) s.heap H locs) (hl : lv_has ls 4 [(0, .ref b), (1, .ref (ad 0)), (2, .ref (bd 0)), (3, .int x3)]) : W p l e room_1 s m #[Value.ref b] below meth c H locs 84 5639 (lw_Z below #[Value.ref b] s) (F0 m 834 ls []) := by
  obtain ⟨hx, hb, hml, hown, hts, hK, hZ, hX, hbl, hlocks, hr⟩ := id C
  have hbA : ¬ lA s b := Nat.not_le.mpr hbl
  have hA : ∀ q, s.heap.size ≤ q → lA s q := fun _ h => h
  obtain ⟨r, σ2, τ2, h1, h2, hR2⟩ := hs σ τ (xs (i + 1)) (xs (i + 2)) hR
  have hf1 : q_ci (pX11_ahead σ (xs (i + 1)) (xs (i + 2))) (fun τ => τ) (fun x y => some (x, y)) = some (r, σ2) := by rw [h1]; rfl
  have hf2 : q_ci (pX12_ahead τ (xs (i + 1)) (xs (i + 2))) (fun τ => τ) (fun x y => some (x, y)) = some (r, τ2) := by rw [h2]; rfl
  refine lv_aload_n hx hb dL_law_834 rfl (lv_at hl 1 rfl) ?_
  refine lv_aload_n hx hb dL_law_835 rfl (lv_at hl 0 rfl) ?_
  refine lv_iload_n hx hb dL_law_836 rfl (lv_at hl 3 rfl) ?_
  refine lv_iconst (v := 1) hx hb dL_law_837 (by decide) ?_
  refine lv_iadd hx hb dL_law_838 ?_
  refine va_sld hx hb hX hbl hbA hS (hi 1 (by decide)).1 dL_law_839 ?_
  refine W.eq (g2 := F0 m 840 ls [.int (xs (i + 1)), .ref (ad 0)]) (congrArg (fun z => F0 m 840 ls (.int (xs z) :: [.ref (ad 0)])) (hi 1 (by decide)).2) ?_
  refine lv_aload_n hx hb dL_law_840 rfl (lv_at hl 0 rfl) ?_
  refine lv_iload_n hx hb dL_law_841 rfl (lv_at hl 3 rfl) ?_
  refine lv_iconst (v := 2) hx hb dL_law_842 (by decide) ?_
  refine lv_iadd hx hb dL_law_843 ?_
  refine va_sld hx hb hX hbl hbA hS (hi 2 (by decide)).1 dL_law_844 ?_
  refine W.eq (g2 := F0 m 845 ls [.int (xs (i + 2)), .int (xs (i + 1)), .ref (ad 0)]) (congrArg (fun z => F0 m 845 ls (.int (xs z) :: [.int (xs (i + 1)), .ref (ad 0)])) (hi 2 (by decide)).2) ?_
  refine q_cVi (wf := (fun (z : SS) => wL cI cZ cS ad bd z τ)) (σ := σ) (wc := wX11 cI cZ cS ad) (σc := σ) (rest := []) ⟨hx, hb, hml, hown, hts⟩ hK hZ hA hP hD hS hf1 (fun x z ho => kX11_ahead l D cI cZ cS zz ad σ (xs (i + 1)) (xs (i + 2)) x z ho) (cwV 2 hts gl_X11_ahead rfl rfl rfl (by decide +kernel) ⟨Nat.le_of_ble_eq_true rfl, Nat.le_of_ble_eq_true rfl⟩) isA rfl (inA cI cZ cS ad bd σ τ) plA plA_ok (Nat.le_of_ble_eq_true rfl) (fun z => mxA cI cZ cS ad bd σ τ z) (fun _ => rfl) (fun z => adA cI cZ cS ad bd σ τ z) rfl rfl rfl rfl (hl.1) rfl (Nat.le_of_ble_eq_true rfl) dL_law_845 ⟨Nat.le_of_ble_eq_true rfl, Nat.le_of_ble_eq_true rfl⟩ (fun x z H locs hf hP hD hS => ?_)
  obtain ⟨hq1, hq2⟩ := Prod.mk.inj (Option.some.inj hf)
  rw [hq1]
  rw [hq2] at hP hD
  refine lv_aload_n hx hb dL_law_848 rfl (lv_at hl 2 rfl) ?_
  refine lv_aload_n hx hb dL_law_849 rfl (lv_at hl 0 rfl) ?_
  refine lv_iload_n hx hb dL_law_850 rfl (lv_at hl 3 rfl) ?_
  refine lv_iconst (v := 1) hx hb dL_law_851 (by decide) ?_
  refine lv_iadd hx hb dL_law_852 ?_
  refine va_sld hx hb hX hbl hbA hS (hi 1 (by decide)).1 dL_law_853 ?_
  refine W.eq (g2 := F0 m 854 ls [.int (xs (i + 1)), .ref (bd 0), .int r]) (congrArg (fun z => F0 m 854 ls (.int (xs z) :: [.ref (bd 0), .int r])) (hi 1 (by decide)).2) ?_
  refine lv_aload_n hx hb dL_law_854 rfl (lv_at hl 0 rfl) ?_
  refine lv_iload_n hx hb dL_law_855 rfl (lv_at hl 3 rfl) ?_
  refine lv_iconst (v := 2) hx hb dL_law_856 (by decide) ?_
  refine lv_iadd hx hb dL_law_857 ?_
  refine va_sld hx hb hX hbl hbA hS (hi 2 (by decide)).1 dL_law_858 ?_
  refine W.eq (g2 := F0 m 859 ls [.int (xs (i + 2)), .int (xs (i + 1)), .ref (bd 0), .int r]) (congrArg (fun z => F0 m 859 ls (.int (xs z) :: [.int (xs (i + 1)), .ref (bd 0), .int r])) (hi 2 (by decide)).2) ?_
  refine q_cVi (wf := (fun (z : SS) => wL cI cZ cS ad bd σ2 z)) (σ := τ) (wc := wX12 cI cZ cS bd) (σc := τ) (rest := [.int r]) ⟨hx, hb, hml, hown, hts⟩ hK hZ hA hP hD hS hf2 (fun x z ho => kX12_ahead l D cI cZ cS zz bd τ (xs (i + 1)) (xs (i + 2)) x z ho) (cwV 2 hts gl_X12_ahead rfl rfl rfl (by decide +kernel) ⟨Nat.le_of_ble_eq_true rfl, Nat.le_of_ble_eq_true rfl⟩) isB rfl (inB cI cZ cS ad bd σ2 τ) plB plB_ok (Nat.le_of_ble_eq_true rfl) (fun z => mxB cI cZ cS ad bd σ2 τ z) (fun _ => rfl) (fun z => adB cI cZ cS ad bd σ2 τ z) rfl rfl rfl rfl (hl.1) rfl (Nat.le_of_ble_eq_true rfl) dL_law_859 ⟨Nat.le_of_ble_eq_true rfl, Nat.le_of_ble_eq_true rfl⟩ (fun x z H locs hf hP hD hS => ?_)
  obtain ⟨hq1, hq2⟩ := Prod.mk.inj (Option.some.inj hf)
  rw [hq1]
  rw [hq2] at hP hD
  refine lv_icmp_eq (tgt := 1589) hx hb dL_law_862 (by decide) (fun _ => ?_) (fun h => absurd rfl h)
  exact nx σ2 τ2 H locs ls hR2 hP hD hS hl
set_option maxRecDepth 100000 in
set_option maxHeartbeats 4000000 in
theorem lc_under (C : LX p s m meth c b Ln xs D cI cZ cS zz) (hs : S_under Rel) (ad bd : Nat → Nat) (i : Nat) (x3 : Int32) (hi : ∀ k : Nat, k < 6 → vp_in (x3 + nI k) Ln ∧ (x3 + nI k).toNatClampNeg = i + k) (nx : ∀ (σ τ : SS) (H : Heap) (locs : List Loc) (ls : Array Slot), Rel σ τ → va_P D vwCl (wL cI cZ cS ad bd σ τ) H → va_D (lA s) (wL cI cZ cS ad bd σ τ) → va_S (lA s) s.heap H locs → lv_has ls 4 [(0, .ref b), (1, .ref (ad 0)), (2, .ref (bd 0)), (3, .int x3)] → W p l e room_1 s m #[Value.ref b] below meth c H locs 84 5639 (lw_Z below #[Value.ref b] s) (F0 m 1589 ls [])) (σ τ : SS) (H : Heap) (locs : List Loc) (ls : Array Slot) (hR : Rel σ τ) (hP : va_P D vwCl (wL cI cZ cS ad bd σ τ) H) (hD : va_D (lA s) (wL cI cZ cS ad bd σ τ)) (hS : va_S (lA s) s.heap H locs) (hl : lv_has ls 4 [(0, .ref b), (1, .ref (ad 0)), (2, .ref (bd 0)), (3, .int x3)]) : W p l e room_1 s m #[Value.ref b] below meth c H locs 84 5639 (lw_Z below #[Value.ref b] s) (F0 m 867 ls []) := by
  obtain ⟨hx, hb, hml, hown, hts, hK, hZ, hX, hbl, hlocks, hr⟩ := id C
  have hbA : ¬ lA s b := Nat.not_le.mpr hbl
  have hA : ∀ q, s.heap.size ≤ q → lA s q := fun _ h => h
  obtain ⟨r, σ2, τ2, h1, h2, hR2⟩ := hs σ τ (xs (i + 1)) (xs (i + 2)) hR
  have hf1 : q_ci (pX11_under σ (xs (i + 1)) (xs (i + 2))) (fun τ => τ) (fun x y => some (x, y)) = some (r, σ2) := by rw [h1]; rfl
  have hf2 : q_ci (pX12_under τ (xs (i + 1)) (xs (i + 2))) (fun τ => τ) (fun x y => some (x, y)) = some (r, τ2) := by rw [h2]; rfl
  refine lv_aload_n hx hb dL_law_867 rfl (lv_at hl 1 rfl) ?_
  refine lv_aload_n hx hb dL_law_868 rfl (lv_at hl 0 rfl) ?_
  refine lv_iload_n hx hb dL_law_869 rfl (lv_at hl 3 rfl) ?_
  refine lv_iconst (v := 1) hx hb dL_law_870 (by decide) ?_
  refine lv_iadd hx hb dL_law_871 ?_
  refine va_sld hx hb hX hbl hbA hS (hi 1 (by decide)).1 dL_law_872 ?_
  refine W.eq (g2 := F0 m 873 ls [.int (xs (i + 1)), .ref (ad 0)]) (congrArg (fun z => F0 m 873 ls (.int (xs z) :: [.ref (ad 0)])) (hi 1 (by decide)).2) ?_
  refine lv_aload_n hx hb dL_law_873 rfl (lv_at hl 0 rfl) ?_
  refine lv_iload_n hx hb dL_law_874 rfl (lv_at hl 3 rfl) ?_
  refine lv_iconst (v := 2) hx hb dL_law_875 (by decide) ?_
  refine lv_iadd hx hb dL_law_876 ?_
  refine va_sld hx hb hX hbl hbA hS (hi 2 (by decide)).1 dL_law_877 ?_
  refine W.eq (g2 := F0 m 878 ls [.int (xs (i + 2)), .int (xs (i + 1)), .ref (ad 0)]) (congrArg (fun z => F0 m 878 ls (.int (xs z) :: [.int (xs (i + 1)), .ref (ad 0)])) (hi 2 (by decide)).2) ?_
  refine q_cVi (wf := (fun (z : SS) => wL cI cZ cS ad bd z τ)) (σ := σ) (wc := wX11 cI cZ cS ad) (σc := σ) (rest := []) ⟨hx, hb, hml, hown, hts⟩ hK hZ hA hP hD hS hf1 (fun x z ho => kX11_under l D cI cZ cS zz ad σ (xs (i + 1)) (xs (i + 2)) x z ho) (cwV 2 hts gl_X11_under rfl rfl rfl (by decide +kernel) ⟨Nat.le_of_ble_eq_true rfl, Nat.le_of_ble_eq_true rfl⟩) isA rfl (inA cI cZ cS ad bd σ τ) plA plA_ok (Nat.le_of_ble_eq_true rfl) (fun z => mxA cI cZ cS ad bd σ τ z) (fun _ => rfl) (fun z => adA cI cZ cS ad bd σ τ z) rfl rfl rfl rfl (hl.1) rfl (Nat.le_of_ble_eq_true rfl) dL_law_878 ⟨Nat.le_of_ble_eq_true rfl, Nat.le_of_ble_eq_true rfl⟩ (fun x z H locs hf hP hD hS => ?_)
  obtain ⟨hq1, hq2⟩ := Prod.mk.inj (Option.some.inj hf)
  rw [hq1]
  rw [hq2] at hP hD
  refine lv_aload_n hx hb dL_law_881 rfl (lv_at hl 2 rfl) ?_
  refine lv_aload_n hx hb dL_law_882 rfl (lv_at hl 0 rfl) ?_
  refine lv_iload_n hx hb dL_law_883 rfl (lv_at hl 3 rfl) ?_
  refine lv_iconst (v := 1) hx hb dL_law_884 (by decide) ?_
  refine lv_iadd hx hb dL_law_885 ?_
  refine va_sld hx hb hX hbl hbA hS (hi 1 (by decide)).1 dL_law_886 ?_
  refine W.eq (g2 := F0 m 887 ls [.int (xs (i + 1)), .ref (bd 0), .int r]) (congrArg (fun z => F0 m 887 ls (.int (xs z) :: [.ref (bd 0), .int r])) (hi 1 (by decide)).2) ?_
  refine lv_aload_n hx hb dL_law_887 rfl (lv_at hl 0 rfl) ?_
  refine lv_iload_n hx hb dL_law_888 rfl (lv_at hl 3 rfl) ?_
  refine lv_iconst (v := 2) hx hb dL_law_889 (by decide) ?_
  refine lv_iadd hx hb dL_law_890 ?_
  refine va_sld hx hb hX hbl hbA hS (hi 2 (by decide)).1 dL_law_891 ?_
  refine W.eq (g2 := F0 m 892 ls [.int (xs (i + 2)), .int (xs (i + 1)), .ref (bd 0), .int r]) (congrArg (fun z => F0 m 892 ls (.int (xs z) :: [.int (xs (i + 1)), .ref (bd 0), .int r])) (hi 2 (by decide)).2) ?_
  refine q_cVi (wf := (fun (z : SS) => wL cI cZ cS ad bd σ2 z)) (σ := τ) (wc := wX12 cI cZ cS bd) (σc := τ) (rest := [.int r]) ⟨hx, hb, hml, hown, hts⟩ hK hZ hA hP hD hS hf2 (fun x z ho => kX12_under l D cI cZ cS zz bd τ (xs (i + 1)) (xs (i + 2)) x z ho) (cwV 2 hts gl_X12_under rfl rfl rfl (by decide +kernel) ⟨Nat.le_of_ble_eq_true rfl, Nat.le_of_ble_eq_true rfl⟩) isB rfl (inB cI cZ cS ad bd σ2 τ) plB plB_ok (Nat.le_of_ble_eq_true rfl) (fun z => mxB cI cZ cS ad bd σ2 τ z) (fun _ => rfl) (fun z => adB cI cZ cS ad bd σ2 τ z) rfl rfl rfl rfl (hl.1) rfl (Nat.le_of_ble_eq_true rfl) dL_law_892 ⟨Nat.le_of_ble_eq_true rfl, Nat.le_of_ble_eq_true rfl⟩ (fun x z H locs hf hP hD hS => ?_)
  obtain ⟨hq1, hq2⟩ := Prod.mk.inj (Option.some.inj hf)
  rw [hq1]
  rw [hq2] at hP hD
  refine lv_icmp_eq (tgt := 1589) hx hb dL_law_895 (by decide) (fun _ => ?_) (fun h => absurd rfl h)
  exact nx σ2 τ2 H locs ls hR2 hP hD hS hl
set_option maxRecDepth 100000 in
set_option maxHeartbeats 4000000 in
theorem lc_reaches (C : LX p s m meth c b Ln xs D cI cZ cS zz) (hs : S_reaches Rel) (ad bd : Nat → Nat) (i : Nat) (x3 : Int32) (hi : ∀ k : Nat, k < 6 → vp_in (x3 + nI k) Ln ∧ (x3 + nI k).toNatClampNeg = i + k) (nx : ∀ (σ τ : SS) (H : Heap) (locs : List Loc) (ls : Array Slot), Rel σ τ → va_P D vwCl (wL cI cZ cS ad bd σ τ) H → va_D (lA s) (wL cI cZ cS ad bd σ τ) → va_S (lA s) s.heap H locs → lv_has ls 4 [(0, .ref b), (1, .ref (ad 0)), (2, .ref (bd 0)), (3, .int x3)] → W p l e room_1 s m #[Value.ref b] below meth c H locs 84 5639 (lw_Z below #[Value.ref b] s) (F0 m 1589 ls [])) (σ τ : SS) (H : Heap) (locs : List Loc) (ls : Array Slot) (hR : Rel σ τ) (hP : va_P D vwCl (wL cI cZ cS ad bd σ τ) H) (hD : va_D (lA s) (wL cI cZ cS ad bd σ τ)) (hS : va_S (lA s) s.heap H locs) (hl : lv_has ls 4 [(0, .ref b), (1, .ref (ad 0)), (2, .ref (bd 0)), (3, .int x3)]) : W p l e room_1 s m #[Value.ref b] below meth c H locs 84 5639 (lw_Z below #[Value.ref b] s) (F0 m 900 ls []) := by
  obtain ⟨hx, hb, hml, hown, hts, hK, hZ, hX, hbl, hlocks, hr⟩ := id C
  have hbA : ¬ lA s b := Nat.not_le.mpr hbl
  have hA : ∀ q, s.heap.size ≤ q → lA s q := fun _ h => h
  obtain ⟨r, σ2, τ2, h1, h2, hR2⟩ := hs σ τ (xs (i + 1)) hR
  have hf1 : q_ci (pX11_reaches σ (xs (i + 1))) (fun τ => τ) (fun x y => some (x, y)) = some (r, σ2) := by rw [h1]; rfl
  have hf2 : q_ci (pX12_reaches τ (xs (i + 1))) (fun τ => τ) (fun x y => some (x, y)) = some (r, τ2) := by rw [h2]; rfl
  refine lv_aload_n hx hb dL_law_900 rfl (lv_at hl 1 rfl) ?_
  refine lv_aload_n hx hb dL_law_901 rfl (lv_at hl 0 rfl) ?_
  refine lv_iload_n hx hb dL_law_902 rfl (lv_at hl 3 rfl) ?_
  refine lv_iconst (v := 1) hx hb dL_law_903 (by decide) ?_
  refine lv_iadd hx hb dL_law_904 ?_
  refine va_sld hx hb hX hbl hbA hS (hi 1 (by decide)).1 dL_law_905 ?_
  refine W.eq (g2 := F0 m 906 ls [.int (xs (i + 1)), .ref (ad 0)]) (congrArg (fun z => F0 m 906 ls (.int (xs z) :: [.ref (ad 0)])) (hi 1 (by decide)).2) ?_
  refine q_cVi (wf := (fun (z : SS) => wL cI cZ cS ad bd z τ)) (σ := σ) (wc := wX11 cI cZ cS ad) (σc := σ) (rest := []) ⟨hx, hb, hml, hown, hts⟩ hK hZ hA hP hD hS hf1 (fun x z ho => kX11_reaches l D cI cZ cS zz ad σ (xs (i + 1)) x z ho) (cwV 1 hts gl_X11_reaches rfl rfl rfl (by decide +kernel) ⟨Nat.le_of_ble_eq_true rfl, Nat.le_of_ble_eq_true rfl⟩) isA rfl (inA cI cZ cS ad bd σ τ) plA plA_ok (Nat.le_of_ble_eq_true rfl) (fun z => mxA cI cZ cS ad bd σ τ z) (fun _ => rfl) (fun z => adA cI cZ cS ad bd σ τ z) rfl rfl rfl rfl (hl.1) rfl (Nat.le_of_ble_eq_true rfl) dL_law_906 ⟨Nat.le_of_ble_eq_true rfl, Nat.le_of_ble_eq_true rfl⟩ (fun x z H locs hf hP hD hS => ?_)
  obtain ⟨hq1, hq2⟩ := Prod.mk.inj (Option.some.inj hf)
  rw [hq1]
  rw [hq2] at hP hD
  refine lv_aload_n hx hb dL_law_909 rfl (lv_at hl 2 rfl) ?_
  refine lv_aload_n hx hb dL_law_910 rfl (lv_at hl 0 rfl) ?_
  refine lv_iload_n hx hb dL_law_911 rfl (lv_at hl 3 rfl) ?_
  refine lv_iconst (v := 1) hx hb dL_law_912 (by decide) ?_
  refine lv_iadd hx hb dL_law_913 ?_
  refine va_sld hx hb hX hbl hbA hS (hi 1 (by decide)).1 dL_law_914 ?_
  refine W.eq (g2 := F0 m 915 ls [.int (xs (i + 1)), .ref (bd 0), .int r]) (congrArg (fun z => F0 m 915 ls (.int (xs z) :: [.ref (bd 0), .int r])) (hi 1 (by decide)).2) ?_
  refine q_cVi (wf := (fun (z : SS) => wL cI cZ cS ad bd σ2 z)) (σ := τ) (wc := wX12 cI cZ cS bd) (σc := τ) (rest := [.int r]) ⟨hx, hb, hml, hown, hts⟩ hK hZ hA hP hD hS hf2 (fun x z ho => kX12_reaches l D cI cZ cS zz bd τ (xs (i + 1)) x z ho) (cwV 1 hts gl_X12_reaches rfl rfl rfl (by decide +kernel) ⟨Nat.le_of_ble_eq_true rfl, Nat.le_of_ble_eq_true rfl⟩) isB rfl (inB cI cZ cS ad bd σ2 τ) plB plB_ok (Nat.le_of_ble_eq_true rfl) (fun z => mxB cI cZ cS ad bd σ2 τ z) (fun _ => rfl) (fun z => adB cI cZ cS ad bd σ2 τ z) rfl rfl rfl rfl (hl.1) rfl (Nat.le_of_ble_eq_true rfl) dL_law_915 ⟨Nat.le_of_ble_eq_true rfl, Nat.le_of_ble_eq_true rfl⟩ (fun x z H locs hf hP hD hS => ?_)
  obtain ⟨hq1, hq2⟩ := Prod.mk.inj (Option.some.inj hf)
  rw [hq1]
  rw [hq2] at hP hD
  refine lv_icmp_eq (tgt := 1589) hx hb dL_law_918 (by decide) (fun _ => ?_) (fun h => absurd rfl h)
  exact nx σ2 τ2 H locs ls hR2 hP hD hS hl
set_option maxRecDepth 100000 in
set_option maxHeartbeats 4000000 in
theorem lc_bestOn (C : LX p s m meth c b Ln xs D cI cZ cS zz) (hs : S_bestOn Rel) (ad bd : Nat → Nat) (i : Nat) (x3 : Int32) (hi : ∀ k : Nat, k < 6 → vp_in (x3 + nI k) Ln ∧ (x3 + nI k).toNatClampNeg = i + k) (nx : ∀ (σ τ : SS) (H : Heap) (locs : List Loc) (ls : Array Slot), Rel σ τ → va_P D vwCl (wL cI cZ cS ad bd σ τ) H → va_D (lA s) (wL cI cZ cS ad bd σ τ) → va_S (lA s) s.heap H locs → lv_has ls 4 [(0, .ref b), (1, .ref (ad 0)), (2, .ref (bd 0)), (3, .int x3)] → W p l e room_1 s m #[Value.ref b] below meth c H locs 84 5639 (lw_Z below #[Value.ref b] s) (F0 m 1589 ls [])) (σ τ : SS) (H : Heap) (locs : List Loc) (ls : Array Slot) (hR : Rel σ τ) (hP : va_P D vwCl (wL cI cZ cS ad bd σ τ) H) (hD : va_D (lA s) (wL cI cZ cS ad bd σ τ)) (hS : va_S (lA s) s.heap H locs) (hl : lv_has ls 4 [(0, .ref b), (1, .ref (ad 0)), (2, .ref (bd 0)), (3, .int x3)]) : W p l e room_1 s m #[Value.ref b] below meth c H locs 84 5639 (lw_Z below #[Value.ref b] s) (F0 m 923 ls []) := by
  obtain ⟨hx, hb, hml, hown, hts, hK, hZ, hX, hbl, hlocks, hr⟩ := id C
  have hbA : ¬ lA s b := Nat.not_le.mpr hbl
  have hA : ∀ q, s.heap.size ≤ q → lA s q := fun _ h => h
  obtain ⟨r, σ2, τ2, h1, h2, hR2⟩ := hs σ τ (xs (i + 1)) (xs (i + 2)) hR
  have hf1 : q_ci (pX11_bestOn σ (xs (i + 1)) (xs (i + 2))) (fun τ => τ) (fun x y => some (x, y)) = some (r, σ2) := by rw [h1]; rfl
  have hf2 : q_ci (pX12_bestOn τ (xs (i + 1)) (xs (i + 2))) (fun τ => τ) (fun x y => some (x, y)) = some (r, τ2) := by rw [h2]; rfl
  refine lv_aload_n hx hb dL_law_923 rfl (lv_at hl 1 rfl) ?_
  refine lv_aload_n hx hb dL_law_924 rfl (lv_at hl 0 rfl) ?_
  refine lv_iload_n hx hb dL_law_925 rfl (lv_at hl 3 rfl) ?_
  refine lv_iconst (v := 1) hx hb dL_law_926 (by decide) ?_
  refine lv_iadd hx hb dL_law_927 ?_
  refine va_sld hx hb hX hbl hbA hS (hi 1 (by decide)).1 dL_law_928 ?_
  refine W.eq (g2 := F0 m 929 ls [.int (xs (i + 1)), .ref (ad 0)]) (congrArg (fun z => F0 m 929 ls (.int (xs z) :: [.ref (ad 0)])) (hi 1 (by decide)).2) ?_
  refine lv_aload_n hx hb dL_law_929 rfl (lv_at hl 0 rfl) ?_
  refine lv_iload_n hx hb dL_law_930 rfl (lv_at hl 3 rfl) ?_
  refine lv_iconst (v := 2) hx hb dL_law_931 (by decide) ?_
  refine lv_iadd hx hb dL_law_932 ?_
  refine va_sld hx hb hX hbl hbA hS (hi 2 (by decide)).1 dL_law_933 ?_
  refine W.eq (g2 := F0 m 934 ls [.int (xs (i + 2)), .int (xs (i + 1)), .ref (ad 0)]) (congrArg (fun z => F0 m 934 ls (.int (xs z) :: [.int (xs (i + 1)), .ref (ad 0)])) (hi 2 (by decide)).2) ?_
  refine q_cVi (wf := (fun (z : SS) => wL cI cZ cS ad bd z τ)) (σ := σ) (wc := wX11 cI cZ cS ad) (σc := σ) (rest := []) ⟨hx, hb, hml, hown, hts⟩ hK hZ hA hP hD hS hf1 (fun x z ho => kX11_bestOn l D cI cZ cS zz ad σ (xs (i + 1)) (xs (i + 2)) x z ho) (cwV 2 hts gl_X11_bestOn rfl rfl rfl (by decide +kernel) ⟨Nat.le_of_ble_eq_true rfl, Nat.le_of_ble_eq_true rfl⟩) isA rfl (inA cI cZ cS ad bd σ τ) plA plA_ok (Nat.le_of_ble_eq_true rfl) (fun z => mxA cI cZ cS ad bd σ τ z) (fun _ => rfl) (fun z => adA cI cZ cS ad bd σ τ z) rfl rfl rfl rfl (hl.1) rfl (Nat.le_of_ble_eq_true rfl) dL_law_934 ⟨Nat.le_of_ble_eq_true rfl, Nat.le_of_ble_eq_true rfl⟩ (fun x z H locs hf hP hD hS => ?_)
  obtain ⟨hq1, hq2⟩ := Prod.mk.inj (Option.some.inj hf)
  rw [hq1]
  rw [hq2] at hP hD
  refine lv_aload_n hx hb dL_law_937 rfl (lv_at hl 2 rfl) ?_
  refine lv_aload_n hx hb dL_law_938 rfl (lv_at hl 0 rfl) ?_
  refine lv_iload_n hx hb dL_law_939 rfl (lv_at hl 3 rfl) ?_
  refine lv_iconst (v := 1) hx hb dL_law_940 (by decide) ?_
  refine lv_iadd hx hb dL_law_941 ?_
  refine va_sld hx hb hX hbl hbA hS (hi 1 (by decide)).1 dL_law_942 ?_
  refine W.eq (g2 := F0 m 943 ls [.int (xs (i + 1)), .ref (bd 0), .int r]) (congrArg (fun z => F0 m 943 ls (.int (xs z) :: [.ref (bd 0), .int r])) (hi 1 (by decide)).2) ?_
  refine lv_aload_n hx hb dL_law_943 rfl (lv_at hl 0 rfl) ?_
  refine lv_iload_n hx hb dL_law_944 rfl (lv_at hl 3 rfl) ?_
  refine lv_iconst (v := 2) hx hb dL_law_945 (by decide) ?_
  refine lv_iadd hx hb dL_law_946 ?_
  refine va_sld hx hb hX hbl hbA hS (hi 2 (by decide)).1 dL_law_947 ?_
  refine W.eq (g2 := F0 m 948 ls [.int (xs (i + 2)), .int (xs (i + 1)), .ref (bd 0), .int r]) (congrArg (fun z => F0 m 948 ls (.int (xs z) :: [.int (xs (i + 1)), .ref (bd 0), .int r])) (hi 2 (by decide)).2) ?_
  refine q_cVi (wf := (fun (z : SS) => wL cI cZ cS ad bd σ2 z)) (σ := τ) (wc := wX12 cI cZ cS bd) (σc := τ) (rest := [.int r]) ⟨hx, hb, hml, hown, hts⟩ hK hZ hA hP hD hS hf2 (fun x z ho => kX12_bestOn l D cI cZ cS zz bd τ (xs (i + 1)) (xs (i + 2)) x z ho) (cwV 2 hts gl_X12_bestOn rfl rfl rfl (by decide +kernel) ⟨Nat.le_of_ble_eq_true rfl, Nat.le_of_ble_eq_true rfl⟩) isB rfl (inB cI cZ cS ad bd σ2 τ) plB plB_ok (Nat.le_of_ble_eq_true rfl) (fun z => mxB cI cZ cS ad bd σ2 τ z) (fun _ => rfl) (fun z => adB cI cZ cS ad bd σ2 τ z) rfl rfl rfl rfl (hl.1) rfl (Nat.le_of_ble_eq_true rfl) dL_law_948 ⟨Nat.le_of_ble_eq_true rfl, Nat.le_of_ble_eq_true rfl⟩ (fun x z H locs hf hP hD hS => ?_)
  obtain ⟨hq1, hq2⟩ := Prod.mk.inj (Option.some.inj hf)
  rw [hq1]
  rw [hq2] at hP hD
  refine lv_icmp_eq (tgt := 1589) hx hb dL_law_951 (by decide) (fun _ => ?_) (fun h => absurd rfl h)
  exact nx σ2 τ2 H locs ls hR2 hP hD hS hl
set_option maxRecDepth 100000 in
set_option maxHeartbeats 4000000 in
theorem lc_rateFor (C : LX p s m meth c b Ln xs D cI cZ cS zz) (hs : S_rateFor Rel) (ad bd : Nat → Nat) (i : Nat) (x3 : Int32) (hi : ∀ k : Nat, k < 6 → vp_in (x3 + nI k) Ln ∧ (x3 + nI k).toNatClampNeg = i + k) (nx : ∀ (σ τ : SS) (H : Heap) (locs : List Loc) (ls : Array Slot), Rel σ τ → va_P D vwCl (wL cI cZ cS ad bd σ τ) H → va_D (lA s) (wL cI cZ cS ad bd σ τ) → va_S (lA s) s.heap H locs → lv_has ls 4 [(0, .ref b), (1, .ref (ad 0)), (2, .ref (bd 0)), (3, .int x3)] → W p l e room_1 s m #[Value.ref b] below meth c H locs 84 5639 (lw_Z below #[Value.ref b] s) (F0 m 1589 ls [])) (σ τ : SS) (H : Heap) (locs : List Loc) (ls : Array Slot) (hR : Rel σ τ) (hP : va_P D vwCl (wL cI cZ cS ad bd σ τ) H) (hD : va_D (lA s) (wL cI cZ cS ad bd σ τ)) (hS : va_S (lA s) s.heap H locs) (hl : lv_has ls 4 [(0, .ref b), (1, .ref (ad 0)), (2, .ref (bd 0)), (3, .int x3)]) : W p l e room_1 s m #[Value.ref b] below meth c H locs 84 5639 (lw_Z below #[Value.ref b] s) (F0 m 956 ls []) := by
  obtain ⟨hx, hb, hml, hown, hts, hK, hZ, hX, hbl, hlocks, hr⟩ := id C
  have hbA : ¬ lA s b := Nat.not_le.mpr hbl
  have hA : ∀ q, s.heap.size ≤ q → lA s q := fun _ h => h
  obtain ⟨r, σ2, τ2, h1, h2, hR2⟩ := hs σ τ (xs (i + 1)) (xs (i + 2)) hR
  have hf1 : q_ci (pX11_rateFor σ (xs (i + 1)) (xs (i + 2))) (fun τ => τ) (fun x y => some (x, y)) = some (r, σ2) := by rw [h1]; rfl
  have hf2 : q_ci (pX12_rateFor τ (xs (i + 1)) (xs (i + 2))) (fun τ => τ) (fun x y => some (x, y)) = some (r, τ2) := by rw [h2]; rfl
  refine lv_aload_n hx hb dL_law_956 rfl (lv_at hl 1 rfl) ?_
  refine lv_aload_n hx hb dL_law_957 rfl (lv_at hl 0 rfl) ?_
  refine lv_iload_n hx hb dL_law_958 rfl (lv_at hl 3 rfl) ?_
  refine lv_iconst (v := 1) hx hb dL_law_959 (by decide) ?_
  refine lv_iadd hx hb dL_law_960 ?_
  refine va_sld hx hb hX hbl hbA hS (hi 1 (by decide)).1 dL_law_961 ?_
  refine W.eq (g2 := F0 m 962 ls [.int (xs (i + 1)), .ref (ad 0)]) (congrArg (fun z => F0 m 962 ls (.int (xs z) :: [.ref (ad 0)])) (hi 1 (by decide)).2) ?_
  refine lv_aload_n hx hb dL_law_962 rfl (lv_at hl 0 rfl) ?_
  refine lv_iload_n hx hb dL_law_963 rfl (lv_at hl 3 rfl) ?_
  refine lv_iconst (v := 2) hx hb dL_law_964 (by decide) ?_
  refine lv_iadd hx hb dL_law_965 ?_
  refine va_sld hx hb hX hbl hbA hS (hi 2 (by decide)).1 dL_law_966 ?_
  refine W.eq (g2 := F0 m 967 ls [.int (xs (i + 2)), .int (xs (i + 1)), .ref (ad 0)]) (congrArg (fun z => F0 m 967 ls (.int (xs z) :: [.int (xs (i + 1)), .ref (ad 0)])) (hi 2 (by decide)).2) ?_
  refine q_cVi (wf := (fun (z : SS) => wL cI cZ cS ad bd z τ)) (σ := σ) (wc := wX11 cI cZ cS ad) (σc := σ) (rest := []) ⟨hx, hb, hml, hown, hts⟩ hK hZ hA hP hD hS hf1 (fun x z ho => kX11_rateFor l D cI cZ cS zz ad σ (xs (i + 1)) (xs (i + 2)) x z ho) (cwV 2 hts gl_X11_rateFor rfl rfl rfl (by decide +kernel) ⟨Nat.le_of_ble_eq_true rfl, Nat.le_of_ble_eq_true rfl⟩) isA rfl (inA cI cZ cS ad bd σ τ) plA plA_ok (Nat.le_of_ble_eq_true rfl) (fun z => mxA cI cZ cS ad bd σ τ z) (fun _ => rfl) (fun z => adA cI cZ cS ad bd σ τ z) rfl rfl rfl rfl (hl.1) rfl (Nat.le_of_ble_eq_true rfl) dL_law_967 ⟨Nat.le_of_ble_eq_true rfl, Nat.le_of_ble_eq_true rfl⟩ (fun x z H locs hf hP hD hS => ?_)
  obtain ⟨hq1, hq2⟩ := Prod.mk.inj (Option.some.inj hf)
  rw [hq1]
  rw [hq2] at hP hD
  refine lv_aload_n hx hb dL_law_970 rfl (lv_at hl 2 rfl) ?_
  refine lv_aload_n hx hb dL_law_971 rfl (lv_at hl 0 rfl) ?_
  refine lv_iload_n hx hb dL_law_972 rfl (lv_at hl 3 rfl) ?_
  refine lv_iconst (v := 1) hx hb dL_law_973 (by decide) ?_
  refine lv_iadd hx hb dL_law_974 ?_
  refine va_sld hx hb hX hbl hbA hS (hi 1 (by decide)).1 dL_law_975 ?_
  refine W.eq (g2 := F0 m 976 ls [.int (xs (i + 1)), .ref (bd 0), .int r]) (congrArg (fun z => F0 m 976 ls (.int (xs z) :: [.ref (bd 0), .int r])) (hi 1 (by decide)).2) ?_
  refine lv_aload_n hx hb dL_law_976 rfl (lv_at hl 0 rfl) ?_
  refine lv_iload_n hx hb dL_law_977 rfl (lv_at hl 3 rfl) ?_
  refine lv_iconst (v := 2) hx hb dL_law_978 (by decide) ?_
  refine lv_iadd hx hb dL_law_979 ?_
  refine va_sld hx hb hX hbl hbA hS (hi 2 (by decide)).1 dL_law_980 ?_
  refine W.eq (g2 := F0 m 981 ls [.int (xs (i + 2)), .int (xs (i + 1)), .ref (bd 0), .int r]) (congrArg (fun z => F0 m 981 ls (.int (xs z) :: [.int (xs (i + 1)), .ref (bd 0), .int r])) (hi 2 (by decide)).2) ?_
  refine q_cVi (wf := (fun (z : SS) => wL cI cZ cS ad bd σ2 z)) (σ := τ) (wc := wX12 cI cZ cS bd) (σc := τ) (rest := [.int r]) ⟨hx, hb, hml, hown, hts⟩ hK hZ hA hP hD hS hf2 (fun x z ho => kX12_rateFor l D cI cZ cS zz bd τ (xs (i + 1)) (xs (i + 2)) x z ho) (cwV 2 hts gl_X12_rateFor rfl rfl rfl (by decide +kernel) ⟨Nat.le_of_ble_eq_true rfl, Nat.le_of_ble_eq_true rfl⟩) isB rfl (inB cI cZ cS ad bd σ2 τ) plB plB_ok (Nat.le_of_ble_eq_true rfl) (fun z => mxB cI cZ cS ad bd σ2 τ z) (fun _ => rfl) (fun z => adB cI cZ cS ad bd σ2 τ z) rfl rfl rfl rfl (hl.1) rfl (Nat.le_of_ble_eq_true rfl) dL_law_981 ⟨Nat.le_of_ble_eq_true rfl, Nat.le_of_ble_eq_true rfl⟩ (fun x z H locs hf hP hD hS => ?_)
  obtain ⟨hq1, hq2⟩ := Prod.mk.inj (Option.some.inj hf)
  rw [hq1]
  rw [hq2] at hP hD
  refine lv_icmp_eq (tgt := 1589) hx hb dL_law_984 (by decide) (fun _ => ?_) (fun h => absurd rfl h)
  exact nx σ2 τ2 H locs ls hR2 hP hD hS hl
set_option maxRecDepth 100000 in
set_option maxHeartbeats 4000000 in
theorem lc_batteryFor (C : LX p s m meth c b Ln xs D cI cZ cS zz) (hs : S_batteryFor Rel) (ad bd : Nat → Nat) (i : Nat) (x3 : Int32) (hi : ∀ k : Nat, k < 6 → vp_in (x3 + nI k) Ln ∧ (x3 + nI k).toNatClampNeg = i + k) (nx : ∀ (σ τ : SS) (H : Heap) (locs : List Loc) (ls : Array Slot), Rel σ τ → va_P D vwCl (wL cI cZ cS ad bd σ τ) H → va_D (lA s) (wL cI cZ cS ad bd σ τ) → va_S (lA s) s.heap H locs → lv_has ls 4 [(0, .ref b), (1, .ref (ad 0)), (2, .ref (bd 0)), (3, .int x3)] → W p l e room_1 s m #[Value.ref b] below meth c H locs 84 5639 (lw_Z below #[Value.ref b] s) (F0 m 1589 ls [])) (σ τ : SS) (H : Heap) (locs : List Loc) (ls : Array Slot) (hR : Rel σ τ) (hP : va_P D vwCl (wL cI cZ cS ad bd σ τ) H) (hD : va_D (lA s) (wL cI cZ cS ad bd σ τ)) (hS : va_S (lA s) s.heap H locs) (hl : lv_has ls 4 [(0, .ref b), (1, .ref (ad 0)), (2, .ref (bd 0)), (3, .int x3)]) : W p l e room_1 s m #[Value.ref b] below meth c H locs 84 5639 (lw_Z below #[Value.ref b] s) (F0 m 989 ls []) := by
  obtain ⟨hx, hb, hml, hown, hts, hK, hZ, hX, hbl, hlocks, hr⟩ := id C
  have hbA : ¬ lA s b := Nat.not_le.mpr hbl
  have hA : ∀ q, s.heap.size ≤ q → lA s q := fun _ h => h
  obtain ⟨r, σ2, τ2, h1, h2, hR2⟩ := hs σ τ (xs (i + 1)) (xs (i + 2)) hR
  have hf1 : q_ci (pX11_batteryFor σ (xs (i + 1)) (xs (i + 2))) (fun τ => τ) (fun x y => some (x, y)) = some (r, σ2) := by rw [h1]; rfl
  have hf2 : q_ci (pX12_batteryFor τ (xs (i + 1)) (xs (i + 2))) (fun τ => τ) (fun x y => some (x, y)) = some (r, τ2) := by rw [h2]; rfl
  refine lv_aload_n hx hb dL_law_989 rfl (lv_at hl 1 rfl) ?_
  refine lv_aload_n hx hb dL_law_990 rfl (lv_at hl 0 rfl) ?_
  refine lv_iload_n hx hb dL_law_991 rfl (lv_at hl 3 rfl) ?_
  refine lv_iconst (v := 1) hx hb dL_law_992 (by decide) ?_
  refine lv_iadd hx hb dL_law_993 ?_
  refine va_sld hx hb hX hbl hbA hS (hi 1 (by decide)).1 dL_law_994 ?_
  refine W.eq (g2 := F0 m 995 ls [.int (xs (i + 1)), .ref (ad 0)]) (congrArg (fun z => F0 m 995 ls (.int (xs z) :: [.ref (ad 0)])) (hi 1 (by decide)).2) ?_
  refine lv_aload_n hx hb dL_law_995 rfl (lv_at hl 0 rfl) ?_
  refine lv_iload_n hx hb dL_law_996 rfl (lv_at hl 3 rfl) ?_
  refine lv_iconst (v := 2) hx hb dL_law_997 (by decide) ?_
  refine lv_iadd hx hb dL_law_998 ?_
  refine va_sld hx hb hX hbl hbA hS (hi 2 (by decide)).1 dL_law_999 ?_
  refine W.eq (g2 := F0 m 1000 ls [.int (xs (i + 2)), .int (xs (i + 1)), .ref (ad 0)]) (congrArg (fun z => F0 m 1000 ls (.int (xs z) :: [.int (xs (i + 1)), .ref (ad 0)])) (hi 2 (by decide)).2) ?_
  refine q_cVi (wf := (fun (z : SS) => wL cI cZ cS ad bd z τ)) (σ := σ) (wc := wX11 cI cZ cS ad) (σc := σ) (rest := []) ⟨hx, hb, hml, hown, hts⟩ hK hZ hA hP hD hS hf1 (fun x z ho => kX11_batteryFor l D cI cZ cS zz ad σ (xs (i + 1)) (xs (i + 2)) x z ho) (cwV 2 hts gl_X11_batteryFor rfl rfl rfl (by decide +kernel) ⟨Nat.le_of_ble_eq_true rfl, Nat.le_of_ble_eq_true rfl⟩) isA rfl (inA cI cZ cS ad bd σ τ) plA plA_ok (Nat.le_of_ble_eq_true rfl) (fun z => mxA cI cZ cS ad bd σ τ z) (fun _ => rfl) (fun z => adA cI cZ cS ad bd σ τ z) rfl rfl rfl rfl (hl.1) rfl (Nat.le_of_ble_eq_true rfl) dL_law_1000 ⟨Nat.le_of_ble_eq_true rfl, Nat.le_of_ble_eq_true rfl⟩ (fun x z H locs hf hP hD hS => ?_)
  obtain ⟨hq1, hq2⟩ := Prod.mk.inj (Option.some.inj hf)
  rw [hq1]
  rw [hq2] at hP hD
  refine lv_aload_n hx hb dL_law_1003 rfl (lv_at hl 2 rfl) ?_
  refine lv_aload_n hx hb dL_law_1004 rfl (lv_at hl 0 rfl) ?_
  refine lv_iload_n hx hb dL_law_1005 rfl (lv_at hl 3 rfl) ?_
  refine lv_iconst (v := 1) hx hb dL_law_1006 (by decide) ?_
  refine lv_iadd hx hb dL_law_1007 ?_
  refine va_sld hx hb hX hbl hbA hS (hi 1 (by decide)).1 dL_law_1008 ?_
  refine W.eq (g2 := F0 m 1009 ls [.int (xs (i + 1)), .ref (bd 0), .int r]) (congrArg (fun z => F0 m 1009 ls (.int (xs z) :: [.ref (bd 0), .int r])) (hi 1 (by decide)).2) ?_
  refine lv_aload_n hx hb dL_law_1009 rfl (lv_at hl 0 rfl) ?_
  refine lv_iload_n hx hb dL_law_1010 rfl (lv_at hl 3 rfl) ?_
  refine lv_iconst (v := 2) hx hb dL_law_1011 (by decide) ?_
  refine lv_iadd hx hb dL_law_1012 ?_
  refine va_sld hx hb hX hbl hbA hS (hi 2 (by decide)).1 dL_law_1013 ?_
  refine W.eq (g2 := F0 m 1014 ls [.int (xs (i + 2)), .int (xs (i + 1)), .ref (bd 0), .int r]) (congrArg (fun z => F0 m 1014 ls (.int (xs z) :: [.int (xs (i + 1)), .ref (bd 0), .int r])) (hi 2 (by decide)).2) ?_
  refine q_cVi (wf := (fun (z : SS) => wL cI cZ cS ad bd σ2 z)) (σ := τ) (wc := wX12 cI cZ cS bd) (σc := τ) (rest := [.int r]) ⟨hx, hb, hml, hown, hts⟩ hK hZ hA hP hD hS hf2 (fun x z ho => kX12_batteryFor l D cI cZ cS zz bd τ (xs (i + 1)) (xs (i + 2)) x z ho) (cwV 2 hts gl_X12_batteryFor rfl rfl rfl (by decide +kernel) ⟨Nat.le_of_ble_eq_true rfl, Nat.le_of_ble_eq_true rfl⟩) isB rfl (inB cI cZ cS ad bd σ2 τ) plB plB_ok (Nat.le_of_ble_eq_true rfl) (fun z => mxB cI cZ cS ad bd σ2 τ z) (fun _ => rfl) (fun z => adB cI cZ cS ad bd σ2 τ z) rfl rfl rfl rfl (hl.1) rfl (Nat.le_of_ble_eq_true rfl) dL_law_1014 ⟨Nat.le_of_ble_eq_true rfl, Nat.le_of_ble_eq_true rfl⟩ (fun x z H locs hf hP hD hS => ?_)
  obtain ⟨hq1, hq2⟩ := Prod.mk.inj (Option.some.inj hf)
  rw [hq1]
  rw [hq2] at hP hD
  refine lv_icmp_eq (tgt := 1589) hx hb dL_law_1017 (by decide) (fun _ => ?_) (fun h => absurd rfl h)
  exact nx σ2 τ2 H locs ls hR2 hP hD hS hl
set_option maxRecDepth 100000 in
set_option maxHeartbeats 4000000 in
theorem lc_cost (C : LX p s m meth c b Ln xs D cI cZ cS zz) (hs : S_cost Rel) (ad bd : Nat → Nat) (i : Nat) (x3 : Int32) (hi : ∀ k : Nat, k < 6 → vp_in (x3 + nI k) Ln ∧ (x3 + nI k).toNatClampNeg = i + k) (nx : ∀ (σ τ : SS) (H : Heap) (locs : List Loc) (ls : Array Slot), Rel σ τ → va_P D vwCl (wL cI cZ cS ad bd σ τ) H → va_D (lA s) (wL cI cZ cS ad bd σ τ) → va_S (lA s) s.heap H locs → lv_has ls 4 [(0, .ref b), (1, .ref (ad 0)), (2, .ref (bd 0)), (3, .int x3)] → W p l e room_1 s m #[Value.ref b] below meth c H locs 84 5639 (lw_Z below #[Value.ref b] s) (F0 m 1589 ls [])) (σ τ : SS) (H : Heap) (locs : List Loc) (ls : Array Slot) (hR : Rel σ τ) (hP : va_P D vwCl (wL cI cZ cS ad bd σ τ) H) (hD : va_D (lA s) (wL cI cZ cS ad bd σ τ)) (hS : va_S (lA s) s.heap H locs) (hl : lv_has ls 4 [(0, .ref b), (1, .ref (ad 0)), (2, .ref (bd 0)), (3, .int x3)]) : W p l e room_1 s m #[Value.ref b] below meth c H locs 84 5639 (lw_Z below #[Value.ref b] s) (F0 m 1022 ls []) := by
  obtain ⟨hx, hb, hml, hown, hts, hK, hZ, hX, hbl, hlocks, hr⟩ := id C
  have hbA : ¬ lA s b := Nat.not_le.mpr hbl
  have hA : ∀ q, s.heap.size ≤ q → lA s q := fun _ h => h
  obtain ⟨r, σ2, τ2, h1, h2, hR2⟩ := hs σ τ (xs (i + 1)) (xs (i + 2)) hR
  have hf1 : q_ci (pX11_cost σ (xs (i + 1)) (xs (i + 2))) (fun τ => τ) (fun x y => some (x, y)) = some (r, σ2) := by rw [h1]; rfl
  have hf2 : q_ci (pX12_cost τ (xs (i + 1)) (xs (i + 2))) (fun τ => τ) (fun x y => some (x, y)) = some (r, τ2) := by rw [h2]; rfl
  refine lv_aload_n hx hb dL_law_1022 rfl (lv_at hl 1 rfl) ?_
  refine lv_aload_n hx hb dL_law_1023 rfl (lv_at hl 0 rfl) ?_
  refine lv_iload_n hx hb dL_law_1024 rfl (lv_at hl 3 rfl) ?_
  refine lv_iconst (v := 1) hx hb dL_law_1025 (by decide) ?_
  refine lv_iadd hx hb dL_law_1026 ?_
  refine va_sld hx hb hX hbl hbA hS (hi 1 (by decide)).1 dL_law_1027 ?_
  refine W.eq (g2 := F0 m 1028 ls [.int (xs (i + 1)), .ref (ad 0)]) (congrArg (fun z => F0 m 1028 ls (.int (xs z) :: [.ref (ad 0)])) (hi 1 (by decide)).2) ?_
  refine lv_aload_n hx hb dL_law_1028 rfl (lv_at hl 0 rfl) ?_
  refine lv_iload_n hx hb dL_law_1029 rfl (lv_at hl 3 rfl) ?_
  refine lv_iconst (v := 2) hx hb dL_law_1030 (by decide) ?_
  refine lv_iadd hx hb dL_law_1031 ?_
  refine va_sld hx hb hX hbl hbA hS (hi 2 (by decide)).1 dL_law_1032 ?_
  refine W.eq (g2 := F0 m 1033 ls [.int (xs (i + 2)), .int (xs (i + 1)), .ref (ad 0)]) (congrArg (fun z => F0 m 1033 ls (.int (xs z) :: [.int (xs (i + 1)), .ref (ad 0)])) (hi 2 (by decide)).2) ?_
  refine q_cVi (wf := (fun (z : SS) => wL cI cZ cS ad bd z τ)) (σ := σ) (wc := wX11 cI cZ cS ad) (σc := σ) (rest := []) ⟨hx, hb, hml, hown, hts⟩ hK hZ hA hP hD hS hf1 (fun x z ho => kX11_cost l D cI cZ cS zz ad σ (xs (i + 1)) (xs (i + 2)) x z ho) (cwV 2 hts gl_X11_cost rfl rfl rfl (by decide +kernel) ⟨Nat.le_of_ble_eq_true rfl, Nat.le_of_ble_eq_true rfl⟩) isA rfl (inA cI cZ cS ad bd σ τ) plA plA_ok (Nat.le_of_ble_eq_true rfl) (fun z => mxA cI cZ cS ad bd σ τ z) (fun _ => rfl) (fun z => adA cI cZ cS ad bd σ τ z) rfl rfl rfl rfl (hl.1) rfl (Nat.le_of_ble_eq_true rfl) dL_law_1033 ⟨Nat.le_of_ble_eq_true rfl, Nat.le_of_ble_eq_true rfl⟩ (fun x z H locs hf hP hD hS => ?_)
  obtain ⟨hq1, hq2⟩ := Prod.mk.inj (Option.some.inj hf)
  rw [hq1]
  rw [hq2] at hP hD
  refine lv_aload_n hx hb dL_law_1036 rfl (lv_at hl 2 rfl) ?_
  refine lv_aload_n hx hb dL_law_1037 rfl (lv_at hl 0 rfl) ?_
  refine lv_iload_n hx hb dL_law_1038 rfl (lv_at hl 3 rfl) ?_
  refine lv_iconst (v := 1) hx hb dL_law_1039 (by decide) ?_
  refine lv_iadd hx hb dL_law_1040 ?_
  refine va_sld hx hb hX hbl hbA hS (hi 1 (by decide)).1 dL_law_1041 ?_
  refine W.eq (g2 := F0 m 1042 ls [.int (xs (i + 1)), .ref (bd 0), .int r]) (congrArg (fun z => F0 m 1042 ls (.int (xs z) :: [.ref (bd 0), .int r])) (hi 1 (by decide)).2) ?_
  refine lv_aload_n hx hb dL_law_1042 rfl (lv_at hl 0 rfl) ?_
  refine lv_iload_n hx hb dL_law_1043 rfl (lv_at hl 3 rfl) ?_
  refine lv_iconst (v := 2) hx hb dL_law_1044 (by decide) ?_
  refine lv_iadd hx hb dL_law_1045 ?_
  refine va_sld hx hb hX hbl hbA hS (hi 2 (by decide)).1 dL_law_1046 ?_
  refine W.eq (g2 := F0 m 1047 ls [.int (xs (i + 2)), .int (xs (i + 1)), .ref (bd 0), .int r]) (congrArg (fun z => F0 m 1047 ls (.int (xs z) :: [.int (xs (i + 1)), .ref (bd 0), .int r])) (hi 2 (by decide)).2) ?_
  refine q_cVi (wf := (fun (z : SS) => wL cI cZ cS ad bd σ2 z)) (σ := τ) (wc := wX12 cI cZ cS bd) (σc := τ) (rest := [.int r]) ⟨hx, hb, hml, hown, hts⟩ hK hZ hA hP hD hS hf2 (fun x z ho => kX12_cost l D cI cZ cS zz bd τ (xs (i + 1)) (xs (i + 2)) x z ho) (cwV 2 hts gl_X12_cost rfl rfl rfl (by decide +kernel) ⟨Nat.le_of_ble_eq_true rfl, Nat.le_of_ble_eq_true rfl⟩) isB rfl (inB cI cZ cS ad bd σ2 τ) plB plB_ok (Nat.le_of_ble_eq_true rfl) (fun z => mxB cI cZ cS ad bd σ2 τ z) (fun _ => rfl) (fun z => adB cI cZ cS ad bd σ2 τ z) rfl rfl rfl rfl (hl.1) rfl (Nat.le_of_ble_eq_true rfl) dL_law_1047 ⟨Nat.le_of_ble_eq_true rfl, Nat.le_of_ble_eq_true rfl⟩ (fun x z H locs hf hP hD hS => ?_)
  obtain ⟨hq1, hq2⟩ := Prod.mk.inj (Option.some.inj hf)
  rw [hq1]
  rw [hq2] at hP hD
  refine lv_icmp_eq (tgt := 1589) hx hb dL_law_1050 (by decide) (fun _ => ?_) (fun h => absurd rfl h)
  exact nx σ2 τ2 H locs ls hR2 hP hD hS hl
set_option maxRecDepth 100000 in
set_option maxHeartbeats 4000000 in
theorem lc_build (C : LX p s m meth c b Ln xs D cI cZ cS zz) (hs : S_build Rel) (ad bd : Nat → Nat) (i : Nat) (x3 : Int32) (hi : ∀ k : Nat, k < 6 → vp_in (x3 + nI k) Ln ∧ (x3 + nI k).toNatClampNeg = i + k) (nx : ∀ (σ τ : SS) (H : Heap) (locs : List Loc) (ls : Array Slot), Rel σ τ → va_P D vwCl (wL cI cZ cS ad bd σ τ) H → va_D (lA s) (wL cI cZ cS ad bd σ τ) → va_S (lA s) s.heap H locs → lv_has ls 4 [(0, .ref b), (1, .ref (ad 0)), (2, .ref (bd 0)), (3, .int x3)] → W p l e room_1 s m #[Value.ref b] below meth c H locs 84 5639 (lw_Z below #[Value.ref b] s) (F0 m 1589 ls [])) (σ τ : SS) (H : Heap) (locs : List Loc) (ls : Array Slot) (hR : Rel σ τ) (hP : va_P D vwCl (wL cI cZ cS ad bd σ τ) H) (hD : va_D (lA s) (wL cI cZ cS ad bd σ τ)) (hS : va_S (lA s) s.heap H locs) (hl : lv_has ls 4 [(0, .ref b), (1, .ref (ad 0)), (2, .ref (bd 0)), (3, .int x3)]) : W p l e room_1 s m #[Value.ref b] below meth c H locs 84 5639 (lw_Z below #[Value.ref b] s) (F0 m 1055 ls []) := by
  obtain ⟨hx, hb, hml, hown, hts, hK, hZ, hX, hbl, hlocks, hr⟩ := id C
  have hbA : ¬ lA s b := Nat.not_le.mpr hbl
  have hA : ∀ q, s.heap.size ≤ q → lA s q := fun _ h => h
  obtain ⟨r, σ2, τ2, h1, h2, hR2⟩ := hs σ τ (xs (i + 1)) hR
  have hf1 : q_ci (pX11_build σ (xs (i + 1))) (fun τ => τ) (fun x y => some (x, y)) = some (r, σ2) := by rw [h1]; rfl
  have hf2 : q_ci (pX12_build τ (xs (i + 1))) (fun τ => τ) (fun x y => some (x, y)) = some (r, τ2) := by rw [h2]; rfl
  refine lv_aload_n hx hb dL_law_1055 rfl (lv_at hl 1 rfl) ?_
  refine lv_aload_n hx hb dL_law_1056 rfl (lv_at hl 0 rfl) ?_
  refine lv_iload_n hx hb dL_law_1057 rfl (lv_at hl 3 rfl) ?_
  refine lv_iconst (v := 1) hx hb dL_law_1058 (by decide) ?_
  refine lv_iadd hx hb dL_law_1059 ?_
  refine va_sld hx hb hX hbl hbA hS (hi 1 (by decide)).1 dL_law_1060 ?_
  refine W.eq (g2 := F0 m 1061 ls [.int (xs (i + 1)), .ref (ad 0)]) (congrArg (fun z => F0 m 1061 ls (.int (xs z) :: [.ref (ad 0)])) (hi 1 (by decide)).2) ?_
  refine q_cVi (wf := (fun (z : SS) => wL cI cZ cS ad bd z τ)) (σ := σ) (wc := wX11 cI cZ cS ad) (σc := σ) (rest := []) ⟨hx, hb, hml, hown, hts⟩ hK hZ hA hP hD hS hf1 (fun x z ho => kX11_build l D cI cZ cS zz ad σ (xs (i + 1)) x z ho) (cwV 1 hts gl_X11_build rfl rfl rfl (by decide +kernel) ⟨Nat.le_of_ble_eq_true rfl, Nat.le_of_ble_eq_true rfl⟩) isA rfl (inA cI cZ cS ad bd σ τ) plA plA_ok (Nat.le_of_ble_eq_true rfl) (fun z => mxA cI cZ cS ad bd σ τ z) (fun _ => rfl) (fun z => adA cI cZ cS ad bd σ τ z) rfl rfl rfl rfl (hl.1) rfl (Nat.le_of_ble_eq_true rfl) dL_law_1061 ⟨Nat.le_of_ble_eq_true rfl, Nat.le_of_ble_eq_true rfl⟩ (fun x z H locs hf hP hD hS => ?_)
  obtain ⟨hq1, hq2⟩ := Prod.mk.inj (Option.some.inj hf)
  rw [hq1]
  rw [hq2] at hP hD
  refine lv_aload_n hx hb dL_law_1064 rfl (lv_at hl 2 rfl) ?_
  refine lv_aload_n hx hb dL_law_1065 rfl (lv_at hl 0 rfl) ?_
  refine lv_iload_n hx hb dL_law_1066 rfl (lv_at hl 3 rfl) ?_
  refine lv_iconst (v := 1) hx hb dL_law_1067 (by decide) ?_
  refine lv_iadd hx hb dL_law_1068 ?_
  refine va_sld hx hb hX hbl hbA hS (hi 1 (by decide)).1 dL_law_1069 ?_
  refine W.eq (g2 := F0 m 1070 ls [.int (xs (i + 1)), .ref (bd 0), .int r]) (congrArg (fun z => F0 m 1070 ls (.int (xs z) :: [.ref (bd 0), .int r])) (hi 1 (by decide)).2) ?_
  refine q_cVi (wf := (fun (z : SS) => wL cI cZ cS ad bd σ2 z)) (σ := τ) (wc := wX12 cI cZ cS bd) (σc := τ) (rest := [.int r]) ⟨hx, hb, hml, hown, hts⟩ hK hZ hA hP hD hS hf2 (fun x z ho => kX12_build l D cI cZ cS zz bd τ (xs (i + 1)) x z ho) (cwV 1 hts gl_X12_build rfl rfl rfl (by decide +kernel) ⟨Nat.le_of_ble_eq_true rfl, Nat.le_of_ble_eq_true rfl⟩) isB rfl (inB cI cZ cS ad bd σ2 τ) plB plB_ok (Nat.le_of_ble_eq_true rfl) (fun z => mxB cI cZ cS ad bd σ2 τ z) (fun _ => rfl) (fun z => adB cI cZ cS ad bd σ2 τ z) rfl rfl rfl rfl (hl.1) rfl (Nat.le_of_ble_eq_true rfl) dL_law_1070 ⟨Nat.le_of_ble_eq_true rfl, Nat.le_of_ble_eq_true rfl⟩ (fun x z H locs hf hP hD hS => ?_)
  obtain ⟨hq1, hq2⟩ := Prod.mk.inj (Option.some.inj hf)
  rw [hq1]
  rw [hq2] at hP hD
  refine lv_icmp_eq (tgt := 1589) hx hb dL_law_1073 (by decide) (fun _ => ?_) (fun h => absurd rfl h)
  exact nx σ2 τ2 H locs ls hR2 hP hD hS hl
set_option maxRecDepth 100000 in
set_option maxHeartbeats 4000000 in
theorem lc_worth (C : LX p s m meth c b Ln xs D cI cZ cS zz) (hs : S_worth Rel) (ad bd : Nat → Nat) (i : Nat) (x3 : Int32) (hi : ∀ k : Nat, k < 6 → vp_in (x3 + nI k) Ln ∧ (x3 + nI k).toNatClampNeg = i + k) (nx : ∀ (σ τ : SS) (H : Heap) (locs : List Loc) (ls : Array Slot), Rel σ τ → va_P D vwCl (wL cI cZ cS ad bd σ τ) H → va_D (lA s) (wL cI cZ cS ad bd σ τ) → va_S (lA s) s.heap H locs → lv_has ls 4 [(0, .ref b), (1, .ref (ad 0)), (2, .ref (bd 0)), (3, .int x3)] → W p l e room_1 s m #[Value.ref b] below meth c H locs 84 5639 (lw_Z below #[Value.ref b] s) (F0 m 1589 ls [])) (σ τ : SS) (H : Heap) (locs : List Loc) (ls : Array Slot) (hR : Rel σ τ) (hP : va_P D vwCl (wL cI cZ cS ad bd σ τ) H) (hD : va_D (lA s) (wL cI cZ cS ad bd σ τ)) (hS : va_S (lA s) s.heap H locs) (hl : lv_has ls 4 [(0, .ref b), (1, .ref (ad 0)), (2, .ref (bd 0)), (3, .int x3)]) : W p l e room_1 s m #[Value.ref b] below meth c H locs 84 5639 (lw_Z below #[Value.ref b] s) (F0 m 1078 ls []) := by
  obtain ⟨hx, hb, hml, hown, hts, hK, hZ, hX, hbl, hlocks, hr⟩ := id C
  have hbA : ¬ lA s b := Nat.not_le.mpr hbl
  have hA : ∀ q, s.heap.size ≤ q → lA s q := fun _ h => h
  obtain ⟨r, σ2, τ2, h1, h2, hR2⟩ := hs σ τ (xs (i + 1)) (xs (i + 2)) (xs (i + 3)) hR
  have hf1 : q_ci (pX11_worth σ (xs (i + 1)) (xs (i + 2)) (xs (i + 3))) (fun τ => τ) (fun x y => some (x, y)) = some (r, σ2) := by rw [h1]; rfl
  have hf2 : q_ci (pX12_worth τ (xs (i + 1)) (xs (i + 2)) (xs (i + 3))) (fun τ => τ) (fun x y => some (x, y)) = some (r, τ2) := by rw [h2]; rfl
  refine lv_aload_n hx hb dL_law_1078 rfl (lv_at hl 1 rfl) ?_
  refine lv_aload_n hx hb dL_law_1079 rfl (lv_at hl 0 rfl) ?_
  refine lv_iload_n hx hb dL_law_1080 rfl (lv_at hl 3 rfl) ?_
  refine lv_iconst (v := 1) hx hb dL_law_1081 (by decide) ?_
  refine lv_iadd hx hb dL_law_1082 ?_
  refine va_sld hx hb hX hbl hbA hS (hi 1 (by decide)).1 dL_law_1083 ?_
  refine W.eq (g2 := F0 m 1084 ls [.int (xs (i + 1)), .ref (ad 0)]) (congrArg (fun z => F0 m 1084 ls (.int (xs z) :: [.ref (ad 0)])) (hi 1 (by decide)).2) ?_
  refine lv_aload_n hx hb dL_law_1084 rfl (lv_at hl 0 rfl) ?_
  refine lv_iload_n hx hb dL_law_1085 rfl (lv_at hl 3 rfl) ?_
  refine lv_iconst (v := 2) hx hb dL_law_1086 (by decide) ?_
  refine lv_iadd hx hb dL_law_1087 ?_
  refine va_sld hx hb hX hbl hbA hS (hi 2 (by decide)).1 dL_law_1088 ?_
  refine W.eq (g2 := F0 m 1089 ls [.int (xs (i + 2)), .int (xs (i + 1)), .ref (ad 0)]) (congrArg (fun z => F0 m 1089 ls (.int (xs z) :: [.int (xs (i + 1)), .ref (ad 0)])) (hi 2 (by decide)).2) ?_
  refine lv_aload_n hx hb dL_law_1089 rfl (lv_at hl 0 rfl) ?_
  refine lv_iload_n hx hb dL_law_1090 rfl (lv_at hl 3 rfl) ?_
  refine lv_iconst (v := 3) hx hb dL_law_1091 (by decide) ?_
  refine lv_iadd hx hb dL_law_1092 ?_
  refine va_sld hx hb hX hbl hbA hS (hi 3 (by decide)).1 dL_law_1093 ?_
  refine W.eq (g2 := F0 m 1094 ls [.int (xs (i + 3)), .int (xs (i + 2)), .int (xs (i + 1)), .ref (ad 0)]) (congrArg (fun z => F0 m 1094 ls (.int (xs z) :: [.int (xs (i + 2)), .int (xs (i + 1)), .ref (ad 0)])) (hi 3 (by decide)).2) ?_
  refine q_cVi (wf := (fun (z : SS) => wL cI cZ cS ad bd z τ)) (σ := σ) (wc := wX11 cI cZ cS ad) (σc := σ) (rest := []) ⟨hx, hb, hml, hown, hts⟩ hK hZ hA hP hD hS hf1 (fun x z ho => kX11_worth l D cI cZ cS zz ad σ (xs (i + 1)) (xs (i + 2)) (xs (i + 3)) x z ho) (cwV 3 hts gl_X11_worth rfl rfl rfl (by decide +kernel) ⟨Nat.le_of_ble_eq_true rfl, Nat.le_of_ble_eq_true rfl⟩) isA rfl (inA cI cZ cS ad bd σ τ) plA plA_ok (Nat.le_of_ble_eq_true rfl) (fun z => mxA cI cZ cS ad bd σ τ z) (fun _ => rfl) (fun z => adA cI cZ cS ad bd σ τ z) rfl rfl rfl rfl (hl.1) rfl (Nat.le_of_ble_eq_true rfl) dL_law_1094 ⟨Nat.le_of_ble_eq_true rfl, Nat.le_of_ble_eq_true rfl⟩ (fun x z H locs hf hP hD hS => ?_)
  obtain ⟨hq1, hq2⟩ := Prod.mk.inj (Option.some.inj hf)
  rw [hq1]
  rw [hq2] at hP hD
  refine lv_aload_n hx hb dL_law_1097 rfl (lv_at hl 2 rfl) ?_
  refine lv_aload_n hx hb dL_law_1098 rfl (lv_at hl 0 rfl) ?_
  refine lv_iload_n hx hb dL_law_1099 rfl (lv_at hl 3 rfl) ?_
  refine lv_iconst (v := 1) hx hb dL_law_1100 (by decide) ?_
  refine lv_iadd hx hb dL_law_1101 ?_
  refine va_sld hx hb hX hbl hbA hS (hi 1 (by decide)).1 dL_law_1102 ?_
  refine W.eq (g2 := F0 m 1103 ls [.int (xs (i + 1)), .ref (bd 0), .int r]) (congrArg (fun z => F0 m 1103 ls (.int (xs z) :: [.ref (bd 0), .int r])) (hi 1 (by decide)).2) ?_
  refine lv_aload_n hx hb dL_law_1103 rfl (lv_at hl 0 rfl) ?_
  refine lv_iload_n hx hb dL_law_1104 rfl (lv_at hl 3 rfl) ?_
  refine lv_iconst (v := 2) hx hb dL_law_1105 (by decide) ?_
  refine lv_iadd hx hb dL_law_1106 ?_
  refine va_sld hx hb hX hbl hbA hS (hi 2 (by decide)).1 dL_law_1107 ?_
  refine W.eq (g2 := F0 m 1108 ls [.int (xs (i + 2)), .int (xs (i + 1)), .ref (bd 0), .int r]) (congrArg (fun z => F0 m 1108 ls (.int (xs z) :: [.int (xs (i + 1)), .ref (bd 0), .int r])) (hi 2 (by decide)).2) ?_
  refine lv_aload_n hx hb dL_law_1108 rfl (lv_at hl 0 rfl) ?_
  refine lv_iload_n hx hb dL_law_1109 rfl (lv_at hl 3 rfl) ?_
  refine lv_iconst (v := 3) hx hb dL_law_1110 (by decide) ?_
  refine lv_iadd hx hb dL_law_1111 ?_
  refine va_sld hx hb hX hbl hbA hS (hi 3 (by decide)).1 dL_law_1112 ?_
  refine W.eq (g2 := F0 m 1113 ls [.int (xs (i + 3)), .int (xs (i + 2)), .int (xs (i + 1)), .ref (bd 0), .int r]) (congrArg (fun z => F0 m 1113 ls (.int (xs z) :: [.int (xs (i + 2)), .int (xs (i + 1)), .ref (bd 0), .int r])) (hi 3 (by decide)).2) ?_
  refine q_cVi (wf := (fun (z : SS) => wL cI cZ cS ad bd σ2 z)) (σ := τ) (wc := wX12 cI cZ cS bd) (σc := τ) (rest := [.int r]) ⟨hx, hb, hml, hown, hts⟩ hK hZ hA hP hD hS hf2 (fun x z ho => kX12_worth l D cI cZ cS zz bd τ (xs (i + 1)) (xs (i + 2)) (xs (i + 3)) x z ho) (cwV 3 hts gl_X12_worth rfl rfl rfl (by decide +kernel) ⟨Nat.le_of_ble_eq_true rfl, Nat.le_of_ble_eq_true rfl⟩) isB rfl (inB cI cZ cS ad bd σ2 τ) plB plB_ok (Nat.le_of_ble_eq_true rfl) (fun z => mxB cI cZ cS ad bd σ2 τ z) (fun _ => rfl) (fun z => adB cI cZ cS ad bd σ2 τ z) rfl rfl rfl rfl (hl.1) rfl (Nat.le_of_ble_eq_true rfl) dL_law_1113 ⟨Nat.le_of_ble_eq_true rfl, Nat.le_of_ble_eq_true rfl⟩ (fun x z H locs hf hP hD hS => ?_)
  obtain ⟨hq1, hq2⟩ := Prod.mk.inj (Option.some.inj hf)
  rw [hq1]
  rw [hq2] at hP hD
  refine lv_icmp_eq (tgt := 1589) hx hb dL_law_1116 (by decide) (fun _ => ?_) (fun h => absurd rfl h)
  exact nx σ2 τ2 H locs ls hR2 hP hD hS hl
set_option maxRecDepth 100000 in
set_option maxHeartbeats 4000000 in
theorem lc_rescue (C : LX p s m meth c b Ln xs D cI cZ cS zz) (hs : S_rescue Rel) (ad bd : Nat → Nat) (i : Nat) (x3 : Int32) (hi : ∀ k : Nat, k < 6 → vp_in (x3 + nI k) Ln ∧ (x3 + nI k).toNatClampNeg = i + k) (nx : ∀ (σ τ : SS) (H : Heap) (locs : List Loc) (ls : Array Slot), Rel σ τ → va_P D vwCl (wL cI cZ cS ad bd σ τ) H → va_D (lA s) (wL cI cZ cS ad bd σ τ) → va_S (lA s) s.heap H locs → lv_has ls 4 [(0, .ref b), (1, .ref (ad 0)), (2, .ref (bd 0)), (3, .int x3)] → W p l e room_1 s m #[Value.ref b] below meth c H locs 84 5639 (lw_Z below #[Value.ref b] s) (F0 m 1589 ls [])) (σ τ : SS) (H : Heap) (locs : List Loc) (ls : Array Slot) (hR : Rel σ τ) (hP : va_P D vwCl (wL cI cZ cS ad bd σ τ) H) (hD : va_D (lA s) (wL cI cZ cS ad bd σ τ)) (hS : va_S (lA s) s.heap H locs) (hl : lv_has ls 4 [(0, .ref b), (1, .ref (ad 0)), (2, .ref (bd 0)), (3, .int x3)]) : W p l e room_1 s m #[Value.ref b] below meth c H locs 84 5639 (lw_Z below #[Value.ref b] s) (F0 m 1121 ls []) := by
  obtain ⟨hx, hb, hml, hown, hts, hK, hZ, hX, hbl, hlocks, hr⟩ := id C
  have hbA : ¬ lA s b := Nat.not_le.mpr hbl
  have hA : ∀ q, s.heap.size ≤ q → lA s q := fun _ h => h
  obtain ⟨r, σ2, τ2, h1, h2, hR2⟩ := hs σ τ (xs (i + 1)) hR
  have hf1 : q_ci (pX11_rescue σ (xs (i + 1))) (fun τ => τ) (fun x y => some (x, y)) = some (r, σ2) := by rw [h1]; rfl
  have hf2 : q_ci (pX12_rescue τ (xs (i + 1))) (fun τ => τ) (fun x y => some (x, y)) = some (r, τ2) := by rw [h2]; rfl
  refine lv_aload_n hx hb dL_law_1121 rfl (lv_at hl 1 rfl) ?_
  refine lv_aload_n hx hb dL_law_1122 rfl (lv_at hl 0 rfl) ?_
  refine lv_iload_n hx hb dL_law_1123 rfl (lv_at hl 3 rfl) ?_
  refine lv_iconst (v := 1) hx hb dL_law_1124 (by decide) ?_
  refine lv_iadd hx hb dL_law_1125 ?_
  refine va_sld hx hb hX hbl hbA hS (hi 1 (by decide)).1 dL_law_1126 ?_
  refine W.eq (g2 := F0 m 1127 ls [.int (xs (i + 1)), .ref (ad 0)]) (congrArg (fun z => F0 m 1127 ls (.int (xs z) :: [.ref (ad 0)])) (hi 1 (by decide)).2) ?_
  refine q_cVi (wf := (fun (z : SS) => wL cI cZ cS ad bd z τ)) (σ := σ) (wc := wX11 cI cZ cS ad) (σc := σ) (rest := []) ⟨hx, hb, hml, hown, hts⟩ hK hZ hA hP hD hS hf1 (fun x z ho => kX11_rescue l D cI cZ cS zz ad σ (xs (i + 1)) x z ho) (cwV 1 hts gl_X11_rescue rfl rfl rfl (by decide +kernel) ⟨Nat.le_of_ble_eq_true rfl, Nat.le_of_ble_eq_true rfl⟩) isA rfl (inA cI cZ cS ad bd σ τ) plA plA_ok (Nat.le_of_ble_eq_true rfl) (fun z => mxA cI cZ cS ad bd σ τ z) (fun _ => rfl) (fun z => adA cI cZ cS ad bd σ τ z) rfl rfl rfl rfl (hl.1) rfl (Nat.le_of_ble_eq_true rfl) dL_law_1127 ⟨Nat.le_of_ble_eq_true rfl, Nat.le_of_ble_eq_true rfl⟩ (fun x z H locs hf hP hD hS => ?_)
  obtain ⟨hq1, hq2⟩ := Prod.mk.inj (Option.some.inj hf)
  rw [hq1]
  rw [hq2] at hP hD
  refine lv_aload_n hx hb dL_law_1130 rfl (lv_at hl 2 rfl) ?_
  refine lv_aload_n hx hb dL_law_1131 rfl (lv_at hl 0 rfl) ?_
  refine lv_iload_n hx hb dL_law_1132 rfl (lv_at hl 3 rfl) ?_
  refine lv_iconst (v := 1) hx hb dL_law_1133 (by decide) ?_
  refine lv_iadd hx hb dL_law_1134 ?_
  refine va_sld hx hb hX hbl hbA hS (hi 1 (by decide)).1 dL_law_1135 ?_
  refine W.eq (g2 := F0 m 1136 ls [.int (xs (i + 1)), .ref (bd 0), .int r]) (congrArg (fun z => F0 m 1136 ls (.int (xs z) :: [.ref (bd 0), .int r])) (hi 1 (by decide)).2) ?_
  refine q_cVi (wf := (fun (z : SS) => wL cI cZ cS ad bd σ2 z)) (σ := τ) (wc := wX12 cI cZ cS bd) (σc := τ) (rest := [.int r]) ⟨hx, hb, hml, hown, hts⟩ hK hZ hA hP hD hS hf2 (fun x z ho => kX12_rescue l D cI cZ cS zz bd τ (xs (i + 1)) x z ho) (cwV 1 hts gl_X12_rescue rfl rfl rfl (by decide +kernel) ⟨Nat.le_of_ble_eq_true rfl, Nat.le_of_ble_eq_true rfl⟩) isB rfl (inB cI cZ cS ad bd σ2 τ) plB plB_ok (Nat.le_of_ble_eq_true rfl) (fun z => mxB cI cZ cS ad bd σ2 τ z) (fun _ => rfl) (fun z => adB cI cZ cS ad bd σ2 τ z) rfl rfl rfl rfl (hl.1) rfl (Nat.le_of_ble_eq_true rfl) dL_law_1136 ⟨Nat.le_of_ble_eq_true rfl, Nat.le_of_ble_eq_true rfl⟩ (fun x z H locs hf hP hD hS => ?_)
  obtain ⟨hq1, hq2⟩ := Prod.mk.inj (Option.some.inj hf)
  rw [hq1]
  rw [hq2] at hP hD
  refine lv_icmp_eq (tgt := 1589) hx hb dL_law_1139 (by decide) (fun _ => ?_) (fun h => absurd rfl h)
  exact nx σ2 τ2 H locs ls hR2 hP hD hS hl
set_option maxRecDepth 100000 in
set_option maxHeartbeats 4000000 in
theorem lc_shelf (C : LX p s m meth c b Ln xs D cI cZ cS zz) (hs : S_shelf Rel) (ad bd : Nat → Nat) (i : Nat) (x3 : Int32) (hi : ∀ k : Nat, k < 6 → vp_in (x3 + nI k) Ln ∧ (x3 + nI k).toNatClampNeg = i + k) (nx : ∀ (σ τ : SS) (H : Heap) (locs : List Loc) (ls : Array Slot), Rel σ τ → va_P D vwCl (wL cI cZ cS ad bd σ τ) H → va_D (lA s) (wL cI cZ cS ad bd σ τ) → va_S (lA s) s.heap H locs → lv_has ls 4 [(0, .ref b), (1, .ref (ad 0)), (2, .ref (bd 0)), (3, .int x3)] → W p l e room_1 s m #[Value.ref b] below meth c H locs 84 5639 (lw_Z below #[Value.ref b] s) (F0 m 1589 ls [])) (σ τ : SS) (H : Heap) (locs : List Loc) (ls : Array Slot) (hR : Rel σ τ) (hP : va_P D vwCl (wL cI cZ cS ad bd σ τ) H) (hD : va_D (lA s) (wL cI cZ cS ad bd σ τ)) (hS : va_S (lA s) s.heap H locs) (hl : lv_has ls 4 [(0, .ref b), (1, .ref (ad 0)), (2, .ref (bd 0)), (3, .int x3)]) : W p l e room_1 s m #[Value.ref b] below meth c H locs 84 5639 (lw_Z below #[Value.ref b] s) (F0 m 1144 ls []) := by
  obtain ⟨hx, hb, hml, hown, hts, hK, hZ, hX, hbl, hlocks, hr⟩ := id C
  have hbA : ¬ lA s b := Nat.not_le.mpr hbl
  have hA : ∀ q, s.heap.size ≤ q → lA s q := fun _ h => h
  obtain ⟨r, σ2, τ2, h1, h2, hR2⟩ := hs σ τ (xs (i + 1)) (xs (i + 2)) hR
  have hf1 : q_ci (pX11_shelf σ (xs (i + 1)) (xs (i + 2))) (fun τ => τ) (fun x y => some (x, y)) = some (r, σ2) := by rw [h1]; rfl
  have hf2 : q_ci (pX12_shelf τ (xs (i + 1)) (xs (i + 2))) (fun τ => τ) (fun x y => some (x, y)) = some (r, τ2) := by rw [h2]; rfl
  refine lv_aload_n hx hb dL_law_1144 rfl (lv_at hl 1 rfl) ?_
  refine lv_aload_n hx hb dL_law_1145 rfl (lv_at hl 0 rfl) ?_
  refine lv_iload_n hx hb dL_law_1146 rfl (lv_at hl 3 rfl) ?_
  refine lv_iconst (v := 1) hx hb dL_law_1147 (by decide) ?_
  refine lv_iadd hx hb dL_law_1148 ?_
  refine va_sld hx hb hX hbl hbA hS (hi 1 (by decide)).1 dL_law_1149 ?_
  refine W.eq (g2 := F0 m 1150 ls [.int (xs (i + 1)), .ref (ad 0)]) (congrArg (fun z => F0 m 1150 ls (.int (xs z) :: [.ref (ad 0)])) (hi 1 (by decide)).2) ?_
  refine lv_aload_n hx hb dL_law_1150 rfl (lv_at hl 0 rfl) ?_
  refine lv_iload_n hx hb dL_law_1151 rfl (lv_at hl 3 rfl) ?_
  refine lv_iconst (v := 2) hx hb dL_law_1152 (by decide) ?_
  refine lv_iadd hx hb dL_law_1153 ?_
  refine va_sld hx hb hX hbl hbA hS (hi 2 (by decide)).1 dL_law_1154 ?_
  refine W.eq (g2 := F0 m 1155 ls [.int (xs (i + 2)), .int (xs (i + 1)), .ref (ad 0)]) (congrArg (fun z => F0 m 1155 ls (.int (xs z) :: [.int (xs (i + 1)), .ref (ad 0)])) (hi 2 (by decide)).2) ?_
  refine q_cVi (wf := (fun (z : SS) => wL cI cZ cS ad bd z τ)) (σ := σ) (wc := wX11 cI cZ cS ad) (σc := σ) (rest := []) ⟨hx, hb, hml, hown, hts⟩ hK hZ hA hP hD hS hf1 (fun x z ho => kX11_shelf l D cI cZ cS zz ad σ (xs (i + 1)) (xs (i + 2)) x z ho) (cwV 2 hts gl_X11_shelf rfl rfl rfl (by decide +kernel) ⟨Nat.le_of_ble_eq_true rfl, Nat.le_of_ble_eq_true rfl⟩) isA rfl (inA cI cZ cS ad bd σ τ) plA plA_ok (Nat.le_of_ble_eq_true rfl) (fun z => mxA cI cZ cS ad bd σ τ z) (fun _ => rfl) (fun z => adA cI cZ cS ad bd σ τ z) rfl rfl rfl rfl (hl.1) rfl (Nat.le_of_ble_eq_true rfl) dL_law_1155 ⟨Nat.le_of_ble_eq_true rfl, Nat.le_of_ble_eq_true rfl⟩ (fun x z H locs hf hP hD hS => ?_)
  obtain ⟨hq1, hq2⟩ := Prod.mk.inj (Option.some.inj hf)
  rw [hq1]
  rw [hq2] at hP hD
  refine lv_aload_n hx hb dL_law_1158 rfl (lv_at hl 2 rfl) ?_
  refine lv_aload_n hx hb dL_law_1159 rfl (lv_at hl 0 rfl) ?_
  refine lv_iload_n hx hb dL_law_1160 rfl (lv_at hl 3 rfl) ?_
  refine lv_iconst (v := 1) hx hb dL_law_1161 (by decide) ?_
  refine lv_iadd hx hb dL_law_1162 ?_
  refine va_sld hx hb hX hbl hbA hS (hi 1 (by decide)).1 dL_law_1163 ?_
  refine W.eq (g2 := F0 m 1164 ls [.int (xs (i + 1)), .ref (bd 0), .int r]) (congrArg (fun z => F0 m 1164 ls (.int (xs z) :: [.ref (bd 0), .int r])) (hi 1 (by decide)).2) ?_
  refine lv_aload_n hx hb dL_law_1164 rfl (lv_at hl 0 rfl) ?_
  refine lv_iload_n hx hb dL_law_1165 rfl (lv_at hl 3 rfl) ?_
  refine lv_iconst (v := 2) hx hb dL_law_1166 (by decide) ?_
  refine lv_iadd hx hb dL_law_1167 ?_
  refine va_sld hx hb hX hbl hbA hS (hi 2 (by decide)).1 dL_law_1168 ?_
  refine W.eq (g2 := F0 m 1169 ls [.int (xs (i + 2)), .int (xs (i + 1)), .ref (bd 0), .int r]) (congrArg (fun z => F0 m 1169 ls (.int (xs z) :: [.int (xs (i + 1)), .ref (bd 0), .int r])) (hi 2 (by decide)).2) ?_
  refine q_cVi (wf := (fun (z : SS) => wL cI cZ cS ad bd σ2 z)) (σ := τ) (wc := wX12 cI cZ cS bd) (σc := τ) (rest := [.int r]) ⟨hx, hb, hml, hown, hts⟩ hK hZ hA hP hD hS hf2 (fun x z ho => kX12_shelf l D cI cZ cS zz bd τ (xs (i + 1)) (xs (i + 2)) x z ho) (cwV 2 hts gl_X12_shelf rfl rfl rfl (by decide +kernel) ⟨Nat.le_of_ble_eq_true rfl, Nat.le_of_ble_eq_true rfl⟩) isB rfl (inB cI cZ cS ad bd σ2 τ) plB plB_ok (Nat.le_of_ble_eq_true rfl) (fun z => mxB cI cZ cS ad bd σ2 τ z) (fun _ => rfl) (fun z => adB cI cZ cS ad bd σ2 τ z) rfl rfl rfl rfl (hl.1) rfl (Nat.le_of_ble_eq_true rfl) dL_law_1169 ⟨Nat.le_of_ble_eq_true rfl, Nat.le_of_ble_eq_true rfl⟩ (fun x z H locs hf hP hD hS => ?_)
  obtain ⟨hq1, hq2⟩ := Prod.mk.inj (Option.some.inj hf)
  rw [hq1]
  rw [hq2] at hP hD
  refine lv_icmp_eq (tgt := 1589) hx hb dL_law_1172 (by decide) (fun _ => ?_) (fun h => absurd rfl h)
  exact nx σ2 τ2 H locs ls hR2 hP hD hS hl
set_option maxRecDepth 100000 in
set_option maxHeartbeats 4000000 in
theorem lc_odds (C : LX p s m meth c b Ln xs D cI cZ cS zz) (hs : S_odds Rel) (ad bd : Nat → Nat) (i : Nat) (x3 : Int32) (hi : ∀ k : Nat, k < 6 → vp_in (x3 + nI k) Ln ∧ (x3 + nI k).toNatClampNeg = i + k) (nx : ∀ (σ τ : SS) (H : Heap) (locs : List Loc) (ls : Array Slot), Rel σ τ → va_P D vwCl (wL cI cZ cS ad bd σ τ) H → va_D (lA s) (wL cI cZ cS ad bd σ τ) → va_S (lA s) s.heap H locs → lv_has ls 4 [(0, .ref b), (1, .ref (ad 0)), (2, .ref (bd 0)), (3, .int x3)] → W p l e room_1 s m #[Value.ref b] below meth c H locs 84 5639 (lw_Z below #[Value.ref b] s) (F0 m 1589 ls [])) (σ τ : SS) (H : Heap) (locs : List Loc) (ls : Array Slot) (hR : Rel σ τ) (hP : va_P D vwCl (wL cI cZ cS ad bd σ τ) H) (hD : va_D (lA s) (wL cI cZ cS ad bd σ τ)) (hS : va_S (lA s) s.heap H locs) (hl : lv_has ls 4 [(0, .ref b), (1, .ref (ad 0)), (2, .ref (bd 0)), (3, .int x3)]) : W p l e room_1 s m #[Value.ref b] below meth c H locs 84 5639 (lw_Z below #[Value.ref b] s) (F0 m 1177 ls []) := by
  obtain ⟨hx, hb, hml, hown, hts, hK, hZ, hX, hbl, hlocks, hr⟩ := id C
  have hbA : ¬ lA s b := Nat.not_le.mpr hbl
  have hA : ∀ q, s.heap.size ≤ q → lA s q := fun _ h => h
  obtain ⟨r, σ2, τ2, h1, h2, hR2⟩ := hs σ τ (xs (i + 1)) (xs (i + 2)) (xs (i + 3)) hR
  have hf1 : q_ci (pX11_odds σ (xs (i + 1)) (xs (i + 2)) (xs (i + 3))) (fun τ => τ) (fun x y => some (x, y)) = some (r, σ2) := by rw [h1]; rfl
  have hf2 : q_ci (pX12_odds τ (xs (i + 1)) (xs (i + 2)) (xs (i + 3))) (fun τ => τ) (fun x y => some (x, y)) = some (r, τ2) := by rw [h2]; rfl
  refine lv_aload_n hx hb dL_law_1177 rfl (lv_at hl 1 rfl) ?_
  refine lv_aload_n hx hb dL_law_1178 rfl (lv_at hl 0 rfl) ?_
  refine lv_iload_n hx hb dL_law_1179 rfl (lv_at hl 3 rfl) ?_
  refine lv_iconst (v := 1) hx hb dL_law_1180 (by decide) ?_
  refine lv_iadd hx hb dL_law_1181 ?_
  refine va_sld hx hb hX hbl hbA hS (hi 1 (by decide)).1 dL_law_1182 ?_
  refine W.eq (g2 := F0 m 1183 ls [.int (xs (i + 1)), .ref (ad 0)]) (congrArg (fun z => F0 m 1183 ls (.int (xs z) :: [.ref (ad 0)])) (hi 1 (by decide)).2) ?_
  refine lv_aload_n hx hb dL_law_1183 rfl (lv_at hl 0 rfl) ?_
  refine lv_iload_n hx hb dL_law_1184 rfl (lv_at hl 3 rfl) ?_
  refine lv_iconst (v := 2) hx hb dL_law_1185 (by decide) ?_
  refine lv_iadd hx hb dL_law_1186 ?_
  refine va_sld hx hb hX hbl hbA hS (hi 2 (by decide)).1 dL_law_1187 ?_
  refine W.eq (g2 := F0 m 1188 ls [.int (xs (i + 2)), .int (xs (i + 1)), .ref (ad 0)]) (congrArg (fun z => F0 m 1188 ls (.int (xs z) :: [.int (xs (i + 1)), .ref (ad 0)])) (hi 2 (by decide)).2) ?_
  refine lv_aload_n hx hb dL_law_1188 rfl (lv_at hl 0 rfl) ?_
  refine lv_iload_n hx hb dL_law_1189 rfl (lv_at hl 3 rfl) ?_
  refine lv_iconst (v := 3) hx hb dL_law_1190 (by decide) ?_
  refine lv_iadd hx hb dL_law_1191 ?_
  refine va_sld hx hb hX hbl hbA hS (hi 3 (by decide)).1 dL_law_1192 ?_
  refine W.eq (g2 := F0 m 1193 ls [.int (xs (i + 3)), .int (xs (i + 2)), .int (xs (i + 1)), .ref (ad 0)]) (congrArg (fun z => F0 m 1193 ls (.int (xs z) :: [.int (xs (i + 2)), .int (xs (i + 1)), .ref (ad 0)])) (hi 3 (by decide)).2) ?_
  refine q_cVi (wf := (fun (z : SS) => wL cI cZ cS ad bd z τ)) (σ := σ) (wc := wX11 cI cZ cS ad) (σc := σ) (rest := []) ⟨hx, hb, hml, hown, hts⟩ hK hZ hA hP hD hS hf1 (fun x z ho => kX11_odds l D cI cZ cS zz ad σ (xs (i + 1)) (xs (i + 2)) (xs (i + 3)) x z ho) (cwV 3 hts gl_X11_odds rfl rfl rfl (by decide +kernel) ⟨Nat.le_of_ble_eq_true rfl, Nat.le_of_ble_eq_true rfl⟩) isA rfl (inA cI cZ cS ad bd σ τ) plA plA_ok (Nat.le_of_ble_eq_true rfl) (fun z => mxA cI cZ cS ad bd σ τ z) (fun _ => rfl) (fun z => adA cI cZ cS ad bd σ τ z) rfl rfl rfl rfl (hl.1) rfl (Nat.le_of_ble_eq_true rfl) dL_law_1193 ⟨Nat.le_of_ble_eq_true rfl, Nat.le_of_ble_eq_true rfl⟩ (fun x z H locs hf hP hD hS => ?_)
  obtain ⟨hq1, hq2⟩ := Prod.mk.inj (Option.some.inj hf)
  rw [hq1]
  rw [hq2] at hP hD
  refine lv_aload_n hx hb dL_law_1196 rfl (lv_at hl 2 rfl) ?_
  refine lv_aload_n hx hb dL_law_1197 rfl (lv_at hl 0 rfl) ?_
  refine lv_iload_n hx hb dL_law_1198 rfl (lv_at hl 3 rfl) ?_
  refine lv_iconst (v := 1) hx hb dL_law_1199 (by decide) ?_
  refine lv_iadd hx hb dL_law_1200 ?_
  refine va_sld hx hb hX hbl hbA hS (hi 1 (by decide)).1 dL_law_1201 ?_
  refine W.eq (g2 := F0 m 1202 ls [.int (xs (i + 1)), .ref (bd 0), .int r]) (congrArg (fun z => F0 m 1202 ls (.int (xs z) :: [.ref (bd 0), .int r])) (hi 1 (by decide)).2) ?_
  refine lv_aload_n hx hb dL_law_1202 rfl (lv_at hl 0 rfl) ?_
  refine lv_iload_n hx hb dL_law_1203 rfl (lv_at hl 3 rfl) ?_
  refine lv_iconst (v := 2) hx hb dL_law_1204 (by decide) ?_
  refine lv_iadd hx hb dL_law_1205 ?_
  refine va_sld hx hb hX hbl hbA hS (hi 2 (by decide)).1 dL_law_1206 ?_
  refine W.eq (g2 := F0 m 1207 ls [.int (xs (i + 2)), .int (xs (i + 1)), .ref (bd 0), .int r]) (congrArg (fun z => F0 m 1207 ls (.int (xs z) :: [.int (xs (i + 1)), .ref (bd 0), .int r])) (hi 2 (by decide)).2) ?_
  refine lv_aload_n hx hb dL_law_1207 rfl (lv_at hl 0 rfl) ?_
  refine lv_iload_n hx hb dL_law_1208 rfl (lv_at hl 3 rfl) ?_
  refine lv_iconst (v := 3) hx hb dL_law_1209 (by decide) ?_
  refine lv_iadd hx hb dL_law_1210 ?_
  refine va_sld hx hb hX hbl hbA hS (hi 3 (by decide)).1 dL_law_1211 ?_
  refine W.eq (g2 := F0 m 1212 ls [.int (xs (i + 3)), .int (xs (i + 2)), .int (xs (i + 1)), .ref (bd 0), .int r]) (congrArg (fun z => F0 m 1212 ls (.int (xs z) :: [.int (xs (i + 2)), .int (xs (i + 1)), .ref (bd 0), .int r])) (hi 3 (by decide)).2) ?_
  refine q_cVi (wf := (fun (z : SS) => wL cI cZ cS ad bd σ2 z)) (σ := τ) (wc := wX12 cI cZ cS bd) (σc := τ) (rest := [.int r]) ⟨hx, hb, hml, hown, hts⟩ hK hZ hA hP hD hS hf2 (fun x z ho => kX12_odds l D cI cZ cS zz bd τ (xs (i + 1)) (xs (i + 2)) (xs (i + 3)) x z ho) (cwV 3 hts gl_X12_odds rfl rfl rfl (by decide +kernel) ⟨Nat.le_of_ble_eq_true rfl, Nat.le_of_ble_eq_true rfl⟩) isB rfl (inB cI cZ cS ad bd σ2 τ) plB plB_ok (Nat.le_of_ble_eq_true rfl) (fun z => mxB cI cZ cS ad bd σ2 τ z) (fun _ => rfl) (fun z => adB cI cZ cS ad bd σ2 τ z) rfl rfl rfl rfl (hl.1) rfl (Nat.le_of_ble_eq_true rfl) dL_law_1212 ⟨Nat.le_of_ble_eq_true rfl, Nat.le_of_ble_eq_true rfl⟩ (fun x z H locs hf hP hD hS => ?_)
  obtain ⟨hq1, hq2⟩ := Prod.mk.inj (Option.some.inj hf)
  rw [hq1]
  rw [hq2] at hP hD
  refine lv_icmp_eq (tgt := 1589) hx hb dL_law_1215 (by decide) (fun _ => ?_) (fun h => absurd rfl h)
  exact nx σ2 τ2 H locs ls hR2 hP hD hS hl
set_option maxRecDepth 100000 in
set_option maxHeartbeats 4000000 in
theorem lc_seed (C : LX p s m meth c b Ln xs D cI cZ cS zz) (hs : S_seed Rel) (ad bd : Nat → Nat) (i : Nat) (x3 : Int32) (hi : ∀ k : Nat, k < 6 → vp_in (x3 + nI k) Ln ∧ (x3 + nI k).toNatClampNeg = i + k) (nx : ∀ (σ τ : SS) (H : Heap) (locs : List Loc) (ls : Array Slot), Rel σ τ → va_P D vwCl (wL cI cZ cS ad bd σ τ) H → va_D (lA s) (wL cI cZ cS ad bd σ τ) → va_S (lA s) s.heap H locs → lv_has ls 4 [(0, .ref b), (1, .ref (ad 0)), (2, .ref (bd 0)), (3, .int x3)] → W p l e room_1 s m #[Value.ref b] below meth c H locs 84 5639 (lw_Z below #[Value.ref b] s) (F0 m 1589 ls [])) (σ τ : SS) (H : Heap) (locs : List Loc) (ls : Array Slot) (hR : Rel σ τ) (hP : va_P D vwCl (wL cI cZ cS ad bd σ τ) H) (hD : va_D (lA s) (wL cI cZ cS ad bd σ τ)) (hS : va_S (lA s) s.heap H locs) (hl : lv_has ls 4 [(0, .ref b), (1, .ref (ad 0)), (2, .ref (bd 0)), (3, .int x3)]) : W p l e room_1 s m #[Value.ref b] below meth c H locs 84 5639 (lw_Z below #[Value.ref b] s) (F0 m 1220 ls []) := by
  obtain ⟨hx, hb, hml, hown, hts, hK, hZ, hX, hbl, hlocks, hr⟩ := id C
  have hbA : ¬ lA s b := Nat.not_le.mpr hbl
  have hA : ∀ q, s.heap.size ≤ q → lA s q := fun _ h => h
  obtain ⟨r, σ2, τ2, h1, h2, hR2⟩ := hs σ τ (xs (i + 1)) hR
  have hf1 : q_ci (pX11_seed σ (xs (i + 1))) (fun τ => τ) (fun x y => some (x, y)) = some (r, σ2) := by rw [h1]; rfl
  have hf2 : q_ci (pX12_seed τ (xs (i + 1))) (fun τ => τ) (fun x y => some (x, y)) = some (r, τ2) := by rw [h2]; rfl
  refine lv_aload_n hx hb dL_law_1220 rfl (lv_at hl 1 rfl) ?_
  refine lv_aload_n hx hb dL_law_1221 rfl (lv_at hl 0 rfl) ?_
  refine lv_iload_n hx hb dL_law_1222 rfl (lv_at hl 3 rfl) ?_
  refine lv_iconst (v := 1) hx hb dL_law_1223 (by decide) ?_
  refine lv_iadd hx hb dL_law_1224 ?_
  refine va_sld hx hb hX hbl hbA hS (hi 1 (by decide)).1 dL_law_1225 ?_
  refine W.eq (g2 := F0 m 1226 ls [.int (xs (i + 1)), .ref (ad 0)]) (congrArg (fun z => F0 m 1226 ls (.int (xs z) :: [.ref (ad 0)])) (hi 1 (by decide)).2) ?_
  refine q_cVi (wf := (fun (z : SS) => wL cI cZ cS ad bd z τ)) (σ := σ) (wc := wX11 cI cZ cS ad) (σc := σ) (rest := []) ⟨hx, hb, hml, hown, hts⟩ hK hZ hA hP hD hS hf1 (fun x z ho => kX11_seed l D cI cZ cS zz ad σ (xs (i + 1)) x z ho) (cwV 1 hts gl_X11_seed rfl rfl rfl (by decide +kernel) ⟨Nat.le_of_ble_eq_true rfl, Nat.le_of_ble_eq_true rfl⟩) isA rfl (inA cI cZ cS ad bd σ τ) plA plA_ok (Nat.le_of_ble_eq_true rfl) (fun z => mxA cI cZ cS ad bd σ τ z) (fun _ => rfl) (fun z => adA cI cZ cS ad bd σ τ z) rfl rfl rfl rfl (hl.1) rfl (Nat.le_of_ble_eq_true rfl) dL_law_1226 ⟨Nat.le_of_ble_eq_true rfl, Nat.le_of_ble_eq_true rfl⟩ (fun x z H locs hf hP hD hS => ?_)
  obtain ⟨hq1, hq2⟩ := Prod.mk.inj (Option.some.inj hf)
  rw [hq1]
  rw [hq2] at hP hD
  refine lv_aload_n hx hb dL_law_1229 rfl (lv_at hl 2 rfl) ?_
  refine lv_aload_n hx hb dL_law_1230 rfl (lv_at hl 0 rfl) ?_
  refine lv_iload_n hx hb dL_law_1231 rfl (lv_at hl 3 rfl) ?_
  refine lv_iconst (v := 1) hx hb dL_law_1232 (by decide) ?_
  refine lv_iadd hx hb dL_law_1233 ?_
  refine va_sld hx hb hX hbl hbA hS (hi 1 (by decide)).1 dL_law_1234 ?_
  refine W.eq (g2 := F0 m 1235 ls [.int (xs (i + 1)), .ref (bd 0), .int r]) (congrArg (fun z => F0 m 1235 ls (.int (xs z) :: [.ref (bd 0), .int r])) (hi 1 (by decide)).2) ?_
  refine q_cVi (wf := (fun (z : SS) => wL cI cZ cS ad bd σ2 z)) (σ := τ) (wc := wX12 cI cZ cS bd) (σc := τ) (rest := [.int r]) ⟨hx, hb, hml, hown, hts⟩ hK hZ hA hP hD hS hf2 (fun x z ho => kX12_seed l D cI cZ cS zz bd τ (xs (i + 1)) x z ho) (cwV 1 hts gl_X12_seed rfl rfl rfl (by decide +kernel) ⟨Nat.le_of_ble_eq_true rfl, Nat.le_of_ble_eq_true rfl⟩) isB rfl (inB cI cZ cS ad bd σ2 τ) plB plB_ok (Nat.le_of_ble_eq_true rfl) (fun z => mxB cI cZ cS ad bd σ2 τ z) (fun _ => rfl) (fun z => adB cI cZ cS ad bd σ2 τ z) rfl rfl rfl rfl (hl.1) rfl (Nat.le_of_ble_eq_true rfl) dL_law_1235 ⟨Nat.le_of_ble_eq_true rfl, Nat.le_of_ble_eq_true rfl⟩ (fun x z H locs hf hP hD hS => ?_)
  obtain ⟨hq1, hq2⟩ := Prod.mk.inj (Option.some.inj hf)
  rw [hq1]
  rw [hq2] at hP hD
  refine lv_icmp_eq (tgt := 1589) hx hb dL_law_1238 (by decide) (fun _ => ?_) (fun h => absurd rfl h)
  exact nx σ2 τ2 H locs ls hR2 hP hD hS hl
set_option maxRecDepth 100000 in
set_option maxHeartbeats 4000000 in
theorem lc_hold (C : LX p s m meth c b Ln xs D cI cZ cS zz) (hs : S_hold Rel) (ad bd : Nat → Nat) (i : Nat) (x3 : Int32) (hi : ∀ k : Nat, k < 6 → vp_in (x3 + nI k) Ln ∧ (x3 + nI k).toNatClampNeg = i + k) (nx : ∀ (σ τ : SS) (H : Heap) (locs : List Loc) (ls : Array Slot), Rel σ τ → va_P D vwCl (wL cI cZ cS ad bd σ τ) H → va_D (lA s) (wL cI cZ cS ad bd σ τ) → va_S (lA s) s.heap H locs → lv_has ls 4 [(0, .ref b), (1, .ref (ad 0)), (2, .ref (bd 0)), (3, .int x3)] → W p l e room_1 s m #[Value.ref b] below meth c H locs 84 5639 (lw_Z below #[Value.ref b] s) (F0 m 1589 ls [])) (σ τ : SS) (H : Heap) (locs : List Loc) (ls : Array Slot) (hR : Rel σ τ) (hP : va_P D vwCl (wL cI cZ cS ad bd σ τ) H) (hD : va_D (lA s) (wL cI cZ cS ad bd σ τ)) (hS : va_S (lA s) s.heap H locs) (hl : lv_has ls 4 [(0, .ref b), (1, .ref (ad 0)), (2, .ref (bd 0)), (3, .int x3)]) : W p l e room_1 s m #[Value.ref b] below meth c H locs 84 5639 (lw_Z below #[Value.ref b] s) (F0 m 1243 ls []) := by
  obtain ⟨hx, hb, hml, hown, hts, hK, hZ, hX, hbl, hlocks, hr⟩ := id C
  have hbA : ¬ lA s b := Nat.not_le.mpr hbl
  have hA : ∀ q, s.heap.size ≤ q → lA s q := fun _ h => h
  obtain ⟨r, σ2, τ2, h1, h2, hR2⟩ := hs σ τ (xs (i + 1)) (xs (i + 2)) hR
  have hf1 : q_ci (pX11_hold σ (xs (i + 1)) (xs (i + 2))) (fun τ => τ) (fun x y => some (x, y)) = some (r, σ2) := by rw [h1]; rfl
  have hf2 : q_ci (pX12_hold τ (xs (i + 1)) (xs (i + 2))) (fun τ => τ) (fun x y => some (x, y)) = some (r, τ2) := by rw [h2]; rfl
  refine lv_aload_n hx hb dL_law_1243 rfl (lv_at hl 1 rfl) ?_
  refine lv_aload_n hx hb dL_law_1244 rfl (lv_at hl 0 rfl) ?_
  refine lv_iload_n hx hb dL_law_1245 rfl (lv_at hl 3 rfl) ?_
  refine lv_iconst (v := 1) hx hb dL_law_1246 (by decide) ?_
  refine lv_iadd hx hb dL_law_1247 ?_
  refine va_sld hx hb hX hbl hbA hS (hi 1 (by decide)).1 dL_law_1248 ?_
  refine W.eq (g2 := F0 m 1249 ls [.int (xs (i + 1)), .ref (ad 0)]) (congrArg (fun z => F0 m 1249 ls (.int (xs z) :: [.ref (ad 0)])) (hi 1 (by decide)).2) ?_
  refine lv_aload_n hx hb dL_law_1249 rfl (lv_at hl 0 rfl) ?_
  refine lv_iload_n hx hb dL_law_1250 rfl (lv_at hl 3 rfl) ?_
  refine lv_iconst (v := 2) hx hb dL_law_1251 (by decide) ?_
  refine lv_iadd hx hb dL_law_1252 ?_
  refine va_sld hx hb hX hbl hbA hS (hi 2 (by decide)).1 dL_law_1253 ?_
  refine W.eq (g2 := F0 m 1254 ls [.int (xs (i + 2)), .int (xs (i + 1)), .ref (ad 0)]) (congrArg (fun z => F0 m 1254 ls (.int (xs z) :: [.int (xs (i + 1)), .ref (ad 0)])) (hi 2 (by decide)).2) ?_
  refine q_cVi (wf := (fun (z : SS) => wL cI cZ cS ad bd z τ)) (σ := σ) (wc := wX11 cI cZ cS ad) (σc := σ) (rest := []) ⟨hx, hb, hml, hown, hts⟩ hK hZ hA hP hD hS hf1 (fun x z ho => kX11_hold l D cI cZ cS zz ad σ (xs (i + 1)) (xs (i + 2)) x z ho) (cwV 2 hts gl_X11_hold rfl rfl rfl (by decide +kernel) ⟨Nat.le_of_ble_eq_true rfl, Nat.le_of_ble_eq_true rfl⟩) isA rfl (inA cI cZ cS ad bd σ τ) plA plA_ok (Nat.le_of_ble_eq_true rfl) (fun z => mxA cI cZ cS ad bd σ τ z) (fun _ => rfl) (fun z => adA cI cZ cS ad bd σ τ z) rfl rfl rfl rfl (hl.1) rfl (Nat.le_of_ble_eq_true rfl) dL_law_1254 ⟨Nat.le_of_ble_eq_true rfl, Nat.le_of_ble_eq_true rfl⟩ (fun x z H locs hf hP hD hS => ?_)
  obtain ⟨hq1, hq2⟩ := Prod.mk.inj (Option.some.inj hf)
  rw [hq1]
  rw [hq2] at hP hD
  refine lv_aload_n hx hb dL_law_1257 rfl (lv_at hl 2 rfl) ?_
  refine lv_aload_n hx hb dL_law_1258 rfl (lv_at hl 0 rfl) ?_
  refine lv_iload_n hx hb dL_law_1259 rfl (lv_at hl 3 rfl) ?_
  refine lv_iconst (v := 1) hx hb dL_law_1260 (by decide) ?_
  refine lv_iadd hx hb dL_law_1261 ?_
  refine va_sld hx hb hX hbl hbA hS (hi 1 (by decide)).1 dL_law_1262 ?_
  refine W.eq (g2 := F0 m 1263 ls [.int (xs (i + 1)), .ref (bd 0), .int r]) (congrArg (fun z => F0 m 1263 ls (.int (xs z) :: [.ref (bd 0), .int r])) (hi 1 (by decide)).2) ?_
  refine lv_aload_n hx hb dL_law_1263 rfl (lv_at hl 0 rfl) ?_
  refine lv_iload_n hx hb dL_law_1264 rfl (lv_at hl 3 rfl) ?_
  refine lv_iconst (v := 2) hx hb dL_law_1265 (by decide) ?_
  refine lv_iadd hx hb dL_law_1266 ?_
  refine va_sld hx hb hX hbl hbA hS (hi 2 (by decide)).1 dL_law_1267 ?_
  refine W.eq (g2 := F0 m 1268 ls [.int (xs (i + 2)), .int (xs (i + 1)), .ref (bd 0), .int r]) (congrArg (fun z => F0 m 1268 ls (.int (xs z) :: [.int (xs (i + 1)), .ref (bd 0), .int r])) (hi 2 (by decide)).2) ?_
  refine q_cVi (wf := (fun (z : SS) => wL cI cZ cS ad bd σ2 z)) (σ := τ) (wc := wX12 cI cZ cS bd) (σc := τ) (rest := [.int r]) ⟨hx, hb, hml, hown, hts⟩ hK hZ hA hP hD hS hf2 (fun x z ho => kX12_hold l D cI cZ cS zz bd τ (xs (i + 1)) (xs (i + 2)) x z ho) (cwV 2 hts gl_X12_hold rfl rfl rfl (by decide +kernel) ⟨Nat.le_of_ble_eq_true rfl, Nat.le_of_ble_eq_true rfl⟩) isB rfl (inB cI cZ cS ad bd σ2 τ) plB plB_ok (Nat.le_of_ble_eq_true rfl) (fun z => mxB cI cZ cS ad bd σ2 τ z) (fun _ => rfl) (fun z => adB cI cZ cS ad bd σ2 τ z) rfl rfl rfl rfl (hl.1) rfl (Nat.le_of_ble_eq_true rfl) dL_law_1268 ⟨Nat.le_of_ble_eq_true rfl, Nat.le_of_ble_eq_true rfl⟩ (fun x z H locs hf hP hD hS => ?_)
  obtain ⟨hq1, hq2⟩ := Prod.mk.inj (Option.some.inj hf)
  rw [hq1]
  rw [hq2] at hP hD
  refine lv_icmp_eq (tgt := 1589) hx hb dL_law_1271 (by decide) (fun _ => ?_) (fun h => absurd rfl h)
  exact nx σ2 τ2 H locs ls hR2 hP hD hS hl
set_option maxRecDepth 100000 in
set_option maxHeartbeats 4000000 in
theorem lc_as (C : LX p s m meth c b Ln xs D cI cZ cS zz) (hs : S_as Rel) (ad bd : Nat → Nat) (i : Nat) (x3 : Int32) (hi : ∀ k : Nat, k < 6 → vp_in (x3 + nI k) Ln ∧ (x3 + nI k).toNatClampNeg = i + k) (nx : ∀ (σ τ : SS) (H : Heap) (locs : List Loc) (ls : Array Slot), Rel σ τ → va_P D vwCl (wL cI cZ cS ad bd σ τ) H → va_D (lA s) (wL cI cZ cS ad bd σ τ) → va_S (lA s) s.heap H locs → lv_has ls 4 [(0, .ref b), (1, .ref (ad 0)), (2, .ref (bd 0)), (3, .int x3)] → W p l e room_1 s m #[Value.ref b] below meth c H locs 84 5639 (lw_Z below #[Value.ref b] s) (F0 m 1589 ls [])) (σ τ : SS) (H : Heap) (locs : List Loc) (ls : Array Slot) (hR : Rel σ τ) (hP : va_P D vwCl (wL cI cZ cS ad bd σ τ) H) (hD : va_D (lA s) (wL cI cZ cS ad bd σ τ)) (hS : va_S (lA s) s.heap H locs) (hl : lv_has ls 4 [(0, .ref b), (1, .ref (ad 0)), (2, .ref (bd 0)), (3, .int x3)]) : W p l e room_1 s m #[Value.ref b] below meth c H locs 84 5639 (lw_Z below #[Value.ref b] s) (F0 m 1276 ls []) := by
  obtain ⟨hx, hb, hml, hown, hts, hK, hZ, hX, hbl, hlocks, hr⟩ := id C
  have hbA : ¬ lA s b := Nat.not_le.mpr hbl
  have hA : ∀ q, s.heap.size ≤ q → lA s q := fun _ h => h
  obtain ⟨r, σ2, τ2, h1, h2, hR2⟩ := hs σ τ (xs (i + 1)) (xs (i + 2)) hR
  have hf1 : q_ci (pX11_as σ (xs (i + 1)) (xs (i + 2))) (fun τ => τ) (fun x y => some (x, y)) = some (r, σ2) := by rw [h1]; rfl
  have hf2 : q_ci (pX12_as τ (xs (i + 1)) (xs (i + 2))) (fun τ => τ) (fun x y => some (x, y)) = some (r, τ2) := by rw [h2]; rfl
  refine lv_aload_n hx hb dL_law_1276 rfl (lv_at hl 1 rfl) ?_
  refine lv_aload_n hx hb dL_law_1277 rfl (lv_at hl 0 rfl) ?_
  refine lv_iload_n hx hb dL_law_1278 rfl (lv_at hl 3 rfl) ?_
  refine lv_iconst (v := 1) hx hb dL_law_1279 (by decide) ?_
  refine lv_iadd hx hb dL_law_1280 ?_
  refine va_sld hx hb hX hbl hbA hS (hi 1 (by decide)).1 dL_law_1281 ?_
  refine W.eq (g2 := F0 m 1282 ls [.int (xs (i + 1)), .ref (ad 0)]) (congrArg (fun z => F0 m 1282 ls (.int (xs z) :: [.ref (ad 0)])) (hi 1 (by decide)).2) ?_
  refine lv_aload_n hx hb dL_law_1282 rfl (lv_at hl 0 rfl) ?_
  refine lv_iload_n hx hb dL_law_1283 rfl (lv_at hl 3 rfl) ?_
  refine lv_iconst (v := 2) hx hb dL_law_1284 (by decide) ?_
  refine lv_iadd hx hb dL_law_1285 ?_
  refine va_sld hx hb hX hbl hbA hS (hi 2 (by decide)).1 dL_law_1286 ?_
  refine W.eq (g2 := F0 m 1287 ls [.int (xs (i + 2)), .int (xs (i + 1)), .ref (ad 0)]) (congrArg (fun z => F0 m 1287 ls (.int (xs z) :: [.int (xs (i + 1)), .ref (ad 0)])) (hi 2 (by decide)).2) ?_
  refine q_cVi (wf := (fun (z : SS) => wL cI cZ cS ad bd z τ)) (σ := σ) (wc := wX11 cI cZ cS ad) (σc := σ) (rest := []) ⟨hx, hb, hml, hown, hts⟩ hK hZ hA hP hD hS hf1 (fun x z ho => kX11_as l D cI cZ cS zz ad σ (xs (i + 1)) (xs (i + 2)) x z ho) (cwV 2 hts gl_X11_as rfl rfl rfl (by decide +kernel) ⟨Nat.le_of_ble_eq_true rfl, Nat.le_of_ble_eq_true rfl⟩) isA rfl (inA cI cZ cS ad bd σ τ) plA plA_ok (Nat.le_of_ble_eq_true rfl) (fun z => mxA cI cZ cS ad bd σ τ z) (fun _ => rfl) (fun z => adA cI cZ cS ad bd σ τ z) rfl rfl rfl rfl (hl.1) rfl (Nat.le_of_ble_eq_true rfl) dL_law_1287 ⟨Nat.le_of_ble_eq_true rfl, Nat.le_of_ble_eq_true rfl⟩ (fun x z H locs hf hP hD hS => ?_)
  obtain ⟨hq1, hq2⟩ := Prod.mk.inj (Option.some.inj hf)
  rw [hq1]
  rw [hq2] at hP hD
  refine lv_aload_n hx hb dL_law_1290 rfl (lv_at hl 2 rfl) ?_
  refine lv_aload_n hx hb dL_law_1291 rfl (lv_at hl 0 rfl) ?_
  refine lv_iload_n hx hb dL_law_1292 rfl (lv_at hl 3 rfl) ?_
  refine lv_iconst (v := 1) hx hb dL_law_1293 (by decide) ?_
  refine lv_iadd hx hb dL_law_1294 ?_
  refine va_sld hx hb hX hbl hbA hS (hi 1 (by decide)).1 dL_law_1295 ?_
  refine W.eq (g2 := F0 m 1296 ls [.int (xs (i + 1)), .ref (bd 0), .int r]) (congrArg (fun z => F0 m 1296 ls (.int (xs z) :: [.ref (bd 0), .int r])) (hi 1 (by decide)).2) ?_
  refine lv_aload_n hx hb dL_law_1296 rfl (lv_at hl 0 rfl) ?_
  refine lv_iload_n hx hb dL_law_1297 rfl (lv_at hl 3 rfl) ?_
  refine lv_iconst (v := 2) hx hb dL_law_1298 (by decide) ?_
  refine lv_iadd hx hb dL_law_1299 ?_
  refine va_sld hx hb hX hbl hbA hS (hi 2 (by decide)).1 dL_law_1300 ?_
  refine W.eq (g2 := F0 m 1301 ls [.int (xs (i + 2)), .int (xs (i + 1)), .ref (bd 0), .int r]) (congrArg (fun z => F0 m 1301 ls (.int (xs z) :: [.int (xs (i + 1)), .ref (bd 0), .int r])) (hi 2 (by decide)).2) ?_
  refine q_cVi (wf := (fun (z : SS) => wL cI cZ cS ad bd σ2 z)) (σ := τ) (wc := wX12 cI cZ cS bd) (σc := τ) (rest := [.int r]) ⟨hx, hb, hml, hown, hts⟩ hK hZ hA hP hD hS hf2 (fun x z ho => kX12_as l D cI cZ cS zz bd τ (xs (i + 1)) (xs (i + 2)) x z ho) (cwV 2 hts gl_X12_as rfl rfl rfl (by decide +kernel) ⟨Nat.le_of_ble_eq_true rfl, Nat.le_of_ble_eq_true rfl⟩) isB rfl (inB cI cZ cS ad bd σ2 τ) plB plB_ok (Nat.le_of_ble_eq_true rfl) (fun z => mxB cI cZ cS ad bd σ2 τ z) (fun _ => rfl) (fun z => adB cI cZ cS ad bd σ2 τ z) rfl rfl rfl rfl (hl.1) rfl (Nat.le_of_ble_eq_true rfl) dL_law_1301 ⟨Nat.le_of_ble_eq_true rfl, Nat.le_of_ble_eq_true rfl⟩ (fun x z H locs hf hP hD hS => ?_)
  obtain ⟨hq1, hq2⟩ := Prod.mk.inj (Option.some.inj hf)
  rw [hq1]
  rw [hq2] at hP hD
  refine lv_icmp_eq (tgt := 1589) hx hb dL_law_1304 (by decide) (fun _ => ?_) (fun h => absurd rfl h)
  exact nx σ2 τ2 H locs ls hR2 hP hD hS hl
set_option maxRecDepth 100000 in
set_option maxHeartbeats 4000000 in
theorem lc_sheet (C : LX p s m meth c b Ln xs D cI cZ cS zz) (hs : S_sheet Rel) (ad bd : Nat → Nat) (i : Nat) (x3 : Int32) (hi : ∀ k : Nat, k < 6 → vp_in (x3 + nI k) Ln ∧ (x3 + nI k).toNatClampNeg = i + k) (nx : ∀ (σ τ : SS) (H : Heap) (locs : List Loc) (ls : Array Slot), Rel σ τ → va_P D vwCl (wL cI cZ cS ad bd σ τ) H → va_D (lA s) (wL cI cZ cS ad bd σ τ) → va_S (lA s) s.heap H locs → lv_has ls 4 [(0, .ref b), (1, .ref (ad 0)), (2, .ref (bd 0)), (3, .int x3)] → W p l e room_1 s m #[Value.ref b] below meth c H locs 84 5639 (lw_Z below #[Value.ref b] s) (F0 m 1589 ls [])) (σ τ : SS) (H : Heap) (locs : List Loc) (ls : Array Slot) (hR : Rel σ τ) (hP : va_P D vwCl (wL cI cZ cS ad bd σ τ) H) (hD : va_D (lA s) (wL cI cZ cS ad bd σ τ)) (hS : va_S (lA s) s.heap H locs) (hl : lv_has ls 4 [(0, .ref b), (1, .ref (ad 0)), (2, .ref (bd 0)), (3, .int x3)]) : W p l e room_1 s m #[Value.ref b] below meth c H locs 84 5639 (lw_Z below #[Value.ref b] s) (F0 m 1309 ls []) := by
  obtain ⟨hx, hb, hml, hown, hts, hK, hZ, hX, hbl, hlocks, hr⟩ := id C
  have hbA : ¬ lA s b := Nat.not_le.mpr hbl
  have hA : ∀ q, s.heap.size ≤ q → lA s q := fun _ h => h
  obtain ⟨r, σ2, τ2, h1, h2, hR2⟩ := hs σ τ (xs (i + 1)) (xs (i + 2)) (xs (i + 3)) hR
  have hf1 : q_ci (pX11_sheet σ (xs (i + 1)) (xs (i + 2)) (xs (i + 3))) (fun τ => τ) (fun x y => some (x, y)) = some (r, σ2) := by rw [h1]; rfl
  have hf2 : q_ci (pX12_sheet τ (xs (i + 1)) (xs (i + 2)) (xs (i + 3))) (fun τ => τ) (fun x y => some (x, y)) = some (r, τ2) := by rw [h2]; rfl
  refine lv_aload_n hx hb dL_law_1309 rfl (lv_at hl 1 rfl) ?_
  refine lv_aload_n hx hb dL_law_1310 rfl (lv_at hl 0 rfl) ?_
  refine lv_iload_n hx hb dL_law_1311 rfl (lv_at hl 3 rfl) ?_
  refine lv_iconst (v := 1) hx hb dL_law_1312 (by decide) ?_
  refine lv_iadd hx hb dL_law_1313 ?_
  refine va_sld hx hb hX hbl hbA hS (hi 1 (by decide)).1 dL_law_1314 ?_
  refine W.eq (g2 := F0 m 1315 ls [.int (xs (i + 1)), .ref (ad 0)]) (congrArg (fun z => F0 m 1315 ls (.int (xs z) :: [.ref (ad 0)])) (hi 1 (by decide)).2) ?_
  refine lv_aload_n hx hb dL_law_1315 rfl (lv_at hl 0 rfl) ?_
  refine lv_iload_n hx hb dL_law_1316 rfl (lv_at hl 3 rfl) ?_
  refine lv_iconst (v := 2) hx hb dL_law_1317 (by decide) ?_
  refine lv_iadd hx hb dL_law_1318 ?_
  refine va_sld hx hb hX hbl hbA hS (hi 2 (by decide)).1 dL_law_1319 ?_
  refine W.eq (g2 := F0 m 1320 ls [.int (xs (i + 2)), .int (xs (i + 1)), .ref (ad 0)]) (congrArg (fun z => F0 m 1320 ls (.int (xs z) :: [.int (xs (i + 1)), .ref (ad 0)])) (hi 2 (by decide)).2) ?_
  refine lv_aload_n hx hb dL_law_1320 rfl (lv_at hl 0 rfl) ?_
  refine lv_iload_n hx hb dL_law_1321 rfl (lv_at hl 3 rfl) ?_
  refine lv_iconst (v := 3) hx hb dL_law_1322 (by decide) ?_
  refine lv_iadd hx hb dL_law_1323 ?_
  refine va_sld hx hb hX hbl hbA hS (hi 3 (by decide)).1 dL_law_1324 ?_
  refine W.eq (g2 := F0 m 1325 ls [.int (xs (i + 3)), .int (xs (i + 2)), .int (xs (i + 1)), .ref (ad 0)]) (congrArg (fun z => F0 m 1325 ls (.int (xs z) :: [.int (xs (i + 2)), .int (xs (i + 1)), .ref (ad 0)])) (hi 3 (by decide)).2) ?_
  refine q_cVi (wf := (fun (z : SS) => wL cI cZ cS ad bd z τ)) (σ := σ) (wc := wX11 cI cZ cS ad) (σc := σ) (rest := []) ⟨hx, hb, hml, hown, hts⟩ hK hZ hA hP hD hS hf1 (fun x z ho => kX11_sheet l D cI cZ cS zz ad σ (xs (i + 1)) (xs (i + 2)) (xs (i + 3)) x z ho) (cwV 3 hts gl_X11_sheet rfl rfl rfl (by decide +kernel) ⟨Nat.le_of_ble_eq_true rfl, Nat.le_of_ble_eq_true rfl⟩) isA rfl (inA cI cZ cS ad bd σ τ) plA plA_ok (Nat.le_of_ble_eq_true rfl) (fun z => mxA cI cZ cS ad bd σ τ z) (fun _ => rfl) (fun z => adA cI cZ cS ad bd σ τ z) rfl rfl rfl rfl (hl.1) rfl (Nat.le_of_ble_eq_true rfl) dL_law_1325 ⟨Nat.le_of_ble_eq_true rfl, Nat.le_of_ble_eq_true rfl⟩ (fun x z H locs hf hP hD hS => ?_)
  obtain ⟨hq1, hq2⟩ := Prod.mk.inj (Option.some.inj hf)
  rw [hq1]
  rw [hq2] at hP hD
  refine lv_aload_n hx hb dL_law_1328 rfl (lv_at hl 2 rfl) ?_
  refine lv_aload_n hx hb dL_law_1329 rfl (lv_at hl 0 rfl) ?_
  refine lv_iload_n hx hb dL_law_1330 rfl (lv_at hl 3 rfl) ?_
  refine lv_iconst (v := 1) hx hb dL_law_1331 (by decide) ?_
  refine lv_iadd hx hb dL_law_1332 ?_
  refine va_sld hx hb hX hbl hbA hS (hi 1 (by decide)).1 dL_law_1333 ?_
  refine W.eq (g2 := F0 m 1334 ls [.int (xs (i + 1)), .ref (bd 0), .int r]) (congrArg (fun z => F0 m 1334 ls (.int (xs z) :: [.ref (bd 0), .int r])) (hi 1 (by decide)).2) ?_
  refine lv_aload_n hx hb dL_law_1334 rfl (lv_at hl 0 rfl) ?_
  refine lv_iload_n hx hb dL_law_1335 rfl (lv_at hl 3 rfl) ?_
  refine lv_iconst (v := 2) hx hb dL_law_1336 (by decide) ?_
  refine lv_iadd hx hb dL_law_1337 ?_
  refine va_sld hx hb hX hbl hbA hS (hi 2 (by decide)).1 dL_law_1338 ?_
  refine W.eq (g2 := F0 m 1339 ls [.int (xs (i + 2)), .int (xs (i + 1)), .ref (bd 0), .int r]) (congrArg (fun z => F0 m 1339 ls (.int (xs z) :: [.int (xs (i + 1)), .ref (bd 0), .int r])) (hi 2 (by decide)).2) ?_
  refine lv_aload_n hx hb dL_law_1339 rfl (lv_at hl 0 rfl) ?_
  refine lv_iload_n hx hb dL_law_1340 rfl (lv_at hl 3 rfl) ?_
  refine lv_iconst (v := 3) hx hb dL_law_1341 (by decide) ?_
  refine lv_iadd hx hb dL_law_1342 ?_
  refine va_sld hx hb hX hbl hbA hS (hi 3 (by decide)).1 dL_law_1343 ?_
  refine W.eq (g2 := F0 m 1344 ls [.int (xs (i + 3)), .int (xs (i + 2)), .int (xs (i + 1)), .ref (bd 0), .int r]) (congrArg (fun z => F0 m 1344 ls (.int (xs z) :: [.int (xs (i + 2)), .int (xs (i + 1)), .ref (bd 0), .int r])) (hi 3 (by decide)).2) ?_
  refine q_cVi (wf := (fun (z : SS) => wL cI cZ cS ad bd σ2 z)) (σ := τ) (wc := wX12 cI cZ cS bd) (σc := τ) (rest := [.int r]) ⟨hx, hb, hml, hown, hts⟩ hK hZ hA hP hD hS hf2 (fun x z ho => kX12_sheet l D cI cZ cS zz bd τ (xs (i + 1)) (xs (i + 2)) (xs (i + 3)) x z ho) (cwV 3 hts gl_X12_sheet rfl rfl rfl (by decide +kernel) ⟨Nat.le_of_ble_eq_true rfl, Nat.le_of_ble_eq_true rfl⟩) isB rfl (inB cI cZ cS ad bd σ2 τ) plB plB_ok (Nat.le_of_ble_eq_true rfl) (fun z => mxB cI cZ cS ad bd σ2 τ z) (fun _ => rfl) (fun z => adB cI cZ cS ad bd σ2 τ z) rfl rfl rfl rfl (hl.1) rfl (Nat.le_of_ble_eq_true rfl) dL_law_1344 ⟨Nat.le_of_ble_eq_true rfl, Nat.le_of_ble_eq_true rfl⟩ (fun x z H locs hf hP hD hS => ?_)
  obtain ⟨hq1, hq2⟩ := Prod.mk.inj (Option.some.inj hf)
  rw [hq1]
  rw [hq2] at hP hD
  refine lv_icmp_eq (tgt := 1589) hx hb dL_law_1347 (by decide) (fun _ => ?_) (fun h => absurd rfl h)
  exact nx σ2 τ2 H locs ls hR2 hP hD hS hl
set_option maxRecDepth 100000 in
set_option maxHeartbeats 4000000 in
theorem lc_write (C : LX p s m meth c b Ln xs D cI cZ cS zz) (hs : S_write Rel) (ad bd : Nat → Nat) (i : Nat) (x3 : Int32) (hi : ∀ k : Nat, k < 6 → vp_in (x3 + nI k) Ln ∧ (x3 + nI k).toNatClampNeg = i + k) (nx : ∀ (σ τ : SS) (H : Heap) (locs : List Loc) (ls : Array Slot), Rel σ τ → va_P D vwCl (wL cI cZ cS ad bd σ τ) H → va_D (lA s) (wL cI cZ cS ad bd σ τ) → va_S (lA s) s.heap H locs → lv_has ls 4 [(0, .ref b), (1, .ref (ad 0)), (2, .ref (bd 0)), (3, .int x3)] → W p l e room_1 s m #[Value.ref b] below meth c H locs 84 5639 (lw_Z below #[Value.ref b] s) (F0 m 1589 ls [])) (σ τ : SS) (H : Heap) (locs : List Loc) (ls : Array Slot) (hR : Rel σ τ) (hP : va_P D vwCl (wL cI cZ cS ad bd σ τ) H) (hD : va_D (lA s) (wL cI cZ cS ad bd σ τ)) (hS : va_S (lA s) s.heap H locs) (hl : lv_has ls 4 [(0, .ref b), (1, .ref (ad 0)), (2, .ref (bd 0)), (3, .int x3)]) : W p l e room_1 s m #[Value.ref b] below meth c H locs 84 5639 (lw_Z below #[Value.ref b] s) (F0 m 1352 ls []) := by
  obtain ⟨hx, hb, hml, hown, hts, hK, hZ, hX, hbl, hlocks, hr⟩ := id C
  have hbA : ¬ lA s b := Nat.not_le.mpr hbl
  have hA : ∀ q, s.heap.size ≤ q → lA s q := fun _ h => h
  obtain ⟨r, σ2, τ2, h1, h2, hR2⟩ := hs σ τ (xs (i + 1)) (xs (i + 2)) (xs (i + 3)) hR
  have hf1 : q_ci (pX11_write σ (xs (i + 1)) (xs (i + 2)) (xs (i + 3))) (fun τ => τ) (fun x y => some (x, y)) = some (r, σ2) := by rw [h1]; rfl
  have hf2 : q_ci (pX12_write τ (xs (i + 1)) (xs (i + 2)) (xs (i + 3))) (fun τ => τ) (fun x y => some (x, y)) = some (r, τ2) := by rw [h2]; rfl
  refine lv_aload_n hx hb dL_law_1352 rfl (lv_at hl 1 rfl) ?_
  refine lv_aload_n hx hb dL_law_1353 rfl (lv_at hl 0 rfl) ?_
  refine lv_iload_n hx hb dL_law_1354 rfl (lv_at hl 3 rfl) ?_
  refine lv_iconst (v := 1) hx hb dL_law_1355 (by decide) ?_
  refine lv_iadd hx hb dL_law_1356 ?_
  refine va_sld hx hb hX hbl hbA hS (hi 1 (by decide)).1 dL_law_1357 ?_
  refine W.eq (g2 := F0 m 1358 ls [.int (xs (i + 1)), .ref (ad 0)]) (congrArg (fun z => F0 m 1358 ls (.int (xs z) :: [.ref (ad 0)])) (hi 1 (by decide)).2) ?_
  refine lv_aload_n hx hb dL_law_1358 rfl (lv_at hl 0 rfl) ?_
  refine lv_iload_n hx hb dL_law_1359 rfl (lv_at hl 3 rfl) ?_
  refine lv_iconst (v := 2) hx hb dL_law_1360 (by decide) ?_
  refine lv_iadd hx hb dL_law_1361 ?_
  refine va_sld hx hb hX hbl hbA hS (hi 2 (by decide)).1 dL_law_1362 ?_
  refine W.eq (g2 := F0 m 1363 ls [.int (xs (i + 2)), .int (xs (i + 1)), .ref (ad 0)]) (congrArg (fun z => F0 m 1363 ls (.int (xs z) :: [.int (xs (i + 1)), .ref (ad 0)])) (hi 2 (by decide)).2) ?_
  refine lv_aload_n hx hb dL_law_1363 rfl (lv_at hl 0 rfl) ?_
  refine lv_iload_n hx hb dL_law_1364 rfl (lv_at hl 3 rfl) ?_
  refine lv_iconst (v := 3) hx hb dL_law_1365 (by decide) ?_
  refine lv_iadd hx hb dL_law_1366 ?_
  refine va_sld hx hb hX hbl hbA hS (hi 3 (by decide)).1 dL_law_1367 ?_
  refine W.eq (g2 := F0 m 1368 ls [.int (xs (i + 3)), .int (xs (i + 2)), .int (xs (i + 1)), .ref (ad 0)]) (congrArg (fun z => F0 m 1368 ls (.int (xs z) :: [.int (xs (i + 2)), .int (xs (i + 1)), .ref (ad 0)])) (hi 3 (by decide)).2) ?_
  refine q_cVi (wf := (fun (z : SS) => wL cI cZ cS ad bd z τ)) (σ := σ) (wc := wX11 cI cZ cS ad) (σc := σ) (rest := []) ⟨hx, hb, hml, hown, hts⟩ hK hZ hA hP hD hS hf1 (fun x z ho => kX11_write l D cI cZ cS zz ad σ (xs (i + 1)) (xs (i + 2)) (xs (i + 3)) x z ho) (cwV 3 hts gl_X11_write rfl rfl rfl (by decide +kernel) ⟨Nat.le_of_ble_eq_true rfl, Nat.le_of_ble_eq_true rfl⟩) isA rfl (inA cI cZ cS ad bd σ τ) plA plA_ok (Nat.le_of_ble_eq_true rfl) (fun z => mxA cI cZ cS ad bd σ τ z) (fun _ => rfl) (fun z => adA cI cZ cS ad bd σ τ z) rfl rfl rfl rfl (hl.1) rfl (Nat.le_of_ble_eq_true rfl) dL_law_1368 ⟨Nat.le_of_ble_eq_true rfl, Nat.le_of_ble_eq_true rfl⟩ (fun x z H locs hf hP hD hS => ?_)
  obtain ⟨hq1, hq2⟩ := Prod.mk.inj (Option.some.inj hf)
  rw [hq1]
  rw [hq2] at hP hD
  refine lv_aload_n hx hb dL_law_1371 rfl (lv_at hl 2 rfl) ?_
  refine lv_aload_n hx hb dL_law_1372 rfl (lv_at hl 0 rfl) ?_
  refine lv_iload_n hx hb dL_law_1373 rfl (lv_at hl 3 rfl) ?_
  refine lv_iconst (v := 1) hx hb dL_law_1374 (by decide) ?_
  refine lv_iadd hx hb dL_law_1375 ?_
  refine va_sld hx hb hX hbl hbA hS (hi 1 (by decide)).1 dL_law_1376 ?_
  refine W.eq (g2 := F0 m 1377 ls [.int (xs (i + 1)), .ref (bd 0), .int r]) (congrArg (fun z => F0 m 1377 ls (.int (xs z) :: [.ref (bd 0), .int r])) (hi 1 (by decide)).2) ?_
  refine lv_aload_n hx hb dL_law_1377 rfl (lv_at hl 0 rfl) ?_
  refine lv_iload_n hx hb dL_law_1378 rfl (lv_at hl 3 rfl) ?_
  refine lv_iconst (v := 2) hx hb dL_law_1379 (by decide) ?_
  refine lv_iadd hx hb dL_law_1380 ?_
  refine va_sld hx hb hX hbl hbA hS (hi 2 (by decide)).1 dL_law_1381 ?_
  refine W.eq (g2 := F0 m 1382 ls [.int (xs (i + 2)), .int (xs (i + 1)), .ref (bd 0), .int r]) (congrArg (fun z => F0 m 1382 ls (.int (xs z) :: [.int (xs (i + 1)), .ref (bd 0), .int r])) (hi 2 (by decide)).2) ?_
  refine lv_aload_n hx hb dL_law_1382 rfl (lv_at hl 0 rfl) ?_
  refine lv_iload_n hx hb dL_law_1383 rfl (lv_at hl 3 rfl) ?_
  refine lv_iconst (v := 3) hx hb dL_law_1384 (by decide) ?_
  refine lv_iadd hx hb dL_law_1385 ?_
  refine va_sld hx hb hX hbl hbA hS (hi 3 (by decide)).1 dL_law_1386 ?_
  refine W.eq (g2 := F0 m 1387 ls [.int (xs (i + 3)), .int (xs (i + 2)), .int (xs (i + 1)), .ref (bd 0), .int r]) (congrArg (fun z => F0 m 1387 ls (.int (xs z) :: [.int (xs (i + 2)), .int (xs (i + 1)), .ref (bd 0), .int r])) (hi 3 (by decide)).2) ?_
  refine q_cVi (wf := (fun (z : SS) => wL cI cZ cS ad bd σ2 z)) (σ := τ) (wc := wX12 cI cZ cS bd) (σc := τ) (rest := [.int r]) ⟨hx, hb, hml, hown, hts⟩ hK hZ hA hP hD hS hf2 (fun x z ho => kX12_write l D cI cZ cS zz bd τ (xs (i + 1)) (xs (i + 2)) (xs (i + 3)) x z ho) (cwV 3 hts gl_X12_write rfl rfl rfl (by decide +kernel) ⟨Nat.le_of_ble_eq_true rfl, Nat.le_of_ble_eq_true rfl⟩) isB rfl (inB cI cZ cS ad bd σ2 τ) plB plB_ok (Nat.le_of_ble_eq_true rfl) (fun z => mxB cI cZ cS ad bd σ2 τ z) (fun _ => rfl) (fun z => adB cI cZ cS ad bd σ2 τ z) rfl rfl rfl rfl (hl.1) rfl (Nat.le_of_ble_eq_true rfl) dL_law_1387 ⟨Nat.le_of_ble_eq_true rfl, Nat.le_of_ble_eq_true rfl⟩ (fun x z H locs hf hP hD hS => ?_)
  obtain ⟨hq1, hq2⟩ := Prod.mk.inj (Option.some.inj hf)
  rw [hq1]
  rw [hq2] at hP hD
  refine lv_icmp_eq (tgt := 1589) hx hb dL_law_1390 (by decide) (fun _ => ?_) (fun h => absurd rfl h)
  exact nx σ2 τ2 H locs ls hR2 hP hD hS hl
set_option maxRecDepth 100000 in
set_option maxHeartbeats 4000000 in
theorem lc_copy (C : LX p s m meth c b Ln xs D cI cZ cS zz) (hs : S_copy Rel) (ad bd : Nat → Nat) (i : Nat) (x3 : Int32) (hi : ∀ k : Nat, k < 6 → vp_in (x3 + nI k) Ln ∧ (x3 + nI k).toNatClampNeg = i + k) (nx : ∀ (σ τ : SS) (H : Heap) (locs : List Loc) (ls : Array Slot), Rel σ τ → va_P D vwCl (wL cI cZ cS ad bd σ τ) H → va_D (lA s) (wL cI cZ cS ad bd σ τ) → va_S (lA s) s.heap H locs → lv_has ls 4 [(0, .ref b), (1, .ref (ad 0)), (2, .ref (bd 0)), (3, .int x3)] → W p l e room_1 s m #[Value.ref b] below meth c H locs 84 5639 (lw_Z below #[Value.ref b] s) (F0 m 1589 ls [])) (σ τ : SS) (H : Heap) (locs : List Loc) (ls : Array Slot) (hR : Rel σ τ) (hP : va_P D vwCl (wL cI cZ cS ad bd σ τ) H) (hD : va_D (lA s) (wL cI cZ cS ad bd σ τ)) (hS : va_S (lA s) s.heap H locs) (hl : lv_has ls 4 [(0, .ref b), (1, .ref (ad 0)), (2, .ref (bd 0)), (3, .int x3)]) : W p l e room_1 s m #[Value.ref b] below meth c H locs 84 5639 (lw_Z below #[Value.ref b] s) (F0 m 1395 ls []) := by
  obtain ⟨hx, hb, hml, hown, hts, hK, hZ, hX, hbl, hlocks, hr⟩ := id C
  have hbA : ¬ lA s b := Nat.not_le.mpr hbl
  have hA : ∀ q, s.heap.size ≤ q → lA s q := fun _ h => h
  obtain ⟨r, σ2, τ2, h1, h2, hR2⟩ := hs σ τ (xs (i + 1)) (xs (i + 2)) (xs (i + 3)) (xs (i + 4)) (xs (i + 5)) hR
  have hf1 : q_ci (pX11_copy σ (xs (i + 1)) (xs (i + 2)) (xs (i + 3)) (xs (i + 4)) (xs (i + 5))) (fun τ => τ) (fun x y => some (x, y)) = some (r, σ2) := by rw [h1]; rfl
  have hf2 : q_ci (pX12_copy τ (xs (i + 1)) (xs (i + 2)) (xs (i + 3)) (xs (i + 4)) (xs (i + 5))) (fun τ => τ) (fun x y => some (x, y)) = some (r, τ2) := by rw [h2]; rfl
  refine lv_aload_n hx hb dL_law_1395 rfl (lv_at hl 1 rfl) ?_
  refine lv_aload_n hx hb dL_law_1396 rfl (lv_at hl 0 rfl) ?_
  refine lv_iload_n hx hb dL_law_1397 rfl (lv_at hl 3 rfl) ?_
  refine lv_iconst (v := 1) hx hb dL_law_1398 (by decide) ?_
  refine lv_iadd hx hb dL_law_1399 ?_
  refine va_sld hx hb hX hbl hbA hS (hi 1 (by decide)).1 dL_law_1400 ?_
  refine W.eq (g2 := F0 m 1401 ls [.int (xs (i + 1)), .ref (ad 0)]) (congrArg (fun z => F0 m 1401 ls (.int (xs z) :: [.ref (ad 0)])) (hi 1 (by decide)).2) ?_
  refine lv_aload_n hx hb dL_law_1401 rfl (lv_at hl 0 rfl) ?_
  refine lv_iload_n hx hb dL_law_1402 rfl (lv_at hl 3 rfl) ?_
  refine lv_iconst (v := 2) hx hb dL_law_1403 (by decide) ?_
  refine lv_iadd hx hb dL_law_1404 ?_
  refine va_sld hx hb hX hbl hbA hS (hi 2 (by decide)).1 dL_law_1405 ?_
  refine W.eq (g2 := F0 m 1406 ls [.int (xs (i + 2)), .int (xs (i + 1)), .ref (ad 0)]) (congrArg (fun z => F0 m 1406 ls (.int (xs z) :: [.int (xs (i + 1)), .ref (ad 0)])) (hi 2 (by decide)).2) ?_
  refine lv_aload_n hx hb dL_law_1406 rfl (lv_at hl 0 rfl) ?_
  refine lv_iload_n hx hb dL_law_1407 rfl (lv_at hl 3 rfl) ?_
  refine lv_iconst (v := 3) hx hb dL_law_1408 (by decide) ?_
  refine lv_iadd hx hb dL_law_1409 ?_
  refine va_sld hx hb hX hbl hbA hS (hi 3 (by decide)).1 dL_law_1410 ?_
  refine W.eq (g2 := F0 m 1411 ls [.int (xs (i + 3)), .int (xs (i + 2)), .int (xs (i + 1)), .ref (ad 0)]) (congrArg (fun z => F0 m 1411 ls (.int (xs z) :: [.int (xs (i + 2)), .int (xs (i + 1)), .ref (ad 0)])) (hi 3 (by decide)).2) ?_
  refine lv_aload_n hx hb dL_law_1411 rfl (lv_at hl 0 rfl) ?_
  refine lv_iload_n hx hb dL_law_1412 rfl (lv_at hl 3 rfl) ?_
  refine lv_iconst (v := 4) hx hb dL_law_1413 (by decide) ?_
  refine lv_iadd hx hb dL_law_1414 ?_
  refine va_sld hx hb hX hbl hbA hS (hi 4 (by decide)).1 dL_law_1415 ?_
  refine W.eq (g2 := F0 m 1416 ls [.int (xs (i + 4)), .int (xs (i + 3)), .int (xs (i + 2)), .int (xs (i + 1)), .ref (ad 0)]) (congrArg (fun z => F0 m 1416 ls (.int (xs z) :: [.int (xs (i + 3)), .int (xs (i + 2)), .int (xs (i + 1)), .ref (ad 0)])) (hi 4 (by decide)).2) ?_
  refine lv_aload_n hx hb dL_law_1416 rfl (lv_at hl 0 rfl) ?_
  refine lv_iload_n hx hb dL_law_1417 rfl (lv_at hl 3 rfl) ?_
  refine lv_iconst (v := 5) hx hb dL_law_1418 (by decide) ?_
  refine lv_iadd hx hb dL_law_1419 ?_
  refine va_sld hx hb hX hbl hbA hS (hi 5 (by decide)).1 dL_law_1420 ?_
  refine W.eq (g2 := F0 m 1421 ls [.int (xs (i + 5)), .int (xs (i + 4)), .int (xs (i + 3)), .int (xs (i + 2)), .int (xs (i + 1)), .ref (ad 0)]) (congrArg (fun z => F0 m 1421 ls (.int (xs z) :: [.int (xs (i + 4)), .int (xs (i + 3)), .int (xs (i + 2)), .int (xs (i + 1)), .ref (ad 0)])) (hi 5 (by decide)).2) ?_
  refine q_cVi (wf := (fun (z : SS) => wL cI cZ cS ad bd z τ)) (σ := σ) (wc := wX11 cI cZ cS ad) (σc := σ) (rest := []) ⟨hx, hb, hml, hown, hts⟩ hK hZ hA hP hD hS hf1 (fun x z ho => kX11_copy l D cI cZ cS zz ad σ (xs (i + 1)) (xs (i + 2)) (xs (i + 3)) (xs (i + 4)) (xs (i + 5)) x z ho) (cwV 5 hts gl_X11_copy rfl rfl rfl (by decide +kernel) ⟨Nat.le_of_ble_eq_true rfl, Nat.le_of_ble_eq_true rfl⟩) isA rfl (inA cI cZ cS ad bd σ τ) plA plA_ok (Nat.le_of_ble_eq_true rfl) (fun z => mxA cI cZ cS ad bd σ τ z) (fun _ => rfl) (fun z => adA cI cZ cS ad bd σ τ z) rfl rfl rfl rfl (hl.1) rfl (Nat.le_of_ble_eq_true rfl) dL_law_1421 ⟨Nat.le_of_ble_eq_true rfl, Nat.le_of_ble_eq_true rfl⟩ (fun x z H locs hf hP hD hS => ?_)
  obtain ⟨hq1, hq2⟩ := Prod.mk.inj (Option.some.inj hf)
  rw [hq1]
  rw [hq2] at hP hD
  refine lv_aload_n hx hb dL_law_1424 rfl (lv_at hl 2 rfl) ?_
  refine lv_aload_n hx hb dL_law_1425 rfl (lv_at hl 0 rfl) ?_
  refine lv_iload_n hx hb dL_law_1426 rfl (lv_at hl 3 rfl) ?_
  refine lv_iconst (v := 1) hx hb dL_law_1427 (by decide) ?_
  refine lv_iadd hx hb dL_law_1428 ?_
  refine va_sld hx hb hX hbl hbA hS (hi 1 (by decide)).1 dL_law_1429 ?_
  refine W.eq (g2 := F0 m 1430 ls [.int (xs (i + 1)), .ref (bd 0), .int r]) (congrArg (fun z => F0 m 1430 ls (.int (xs z) :: [.ref (bd 0), .int r])) (hi 1 (by decide)).2) ?_
  refine lv_aload_n hx hb dL_law_1430 rfl (lv_at hl 0 rfl) ?_
  refine lv_iload_n hx hb dL_law_1431 rfl (lv_at hl 3 rfl) ?_
  refine lv_iconst (v := 2) hx hb dL_law_1432 (by decide) ?_
  refine lv_iadd hx hb dL_law_1433 ?_
  refine va_sld hx hb hX hbl hbA hS (hi 2 (by decide)).1 dL_law_1434 ?_
  refine W.eq (g2 := F0 m 1435 ls [.int (xs (i + 2)), .int (xs (i + 1)), .ref (bd 0), .int r]) (congrArg (fun z => F0 m 1435 ls (.int (xs z) :: [.int (xs (i + 1)), .ref (bd 0), .int r])) (hi 2 (by decide)).2) ?_
  refine lv_aload_n hx hb dL_law_1435 rfl (lv_at hl 0 rfl) ?_
  refine lv_iload_n hx hb dL_law_1436 rfl (lv_at hl 3 rfl) ?_
  refine lv_iconst (v := 3) hx hb dL_law_1437 (by decide) ?_
  refine lv_iadd hx hb dL_law_1438 ?_
  refine va_sld hx hb hX hbl hbA hS (hi 3 (by decide)).1 dL_law_1439 ?_
  refine W.eq (g2 := F0 m 1440 ls [.int (xs (i + 3)), .int (xs (i + 2)), .int (xs (i + 1)), .ref (bd 0), .int r]) (congrArg (fun z => F0 m 1440 ls (.int (xs z) :: [.int (xs (i + 2)), .int (xs (i + 1)), .ref (bd 0), .int r])) (hi 3 (by decide)).2) ?_
  refine lv_aload_n hx hb dL_law_1440 rfl (lv_at hl 0 rfl) ?_
  refine lv_iload_n hx hb dL_law_1441 rfl (lv_at hl 3 rfl) ?_
  refine lv_iconst (v := 4) hx hb dL_law_1442 (by decide) ?_
  refine lv_iadd hx hb dL_law_1443 ?_
  refine va_sld hx hb hX hbl hbA hS (hi 4 (by decide)).1 dL_law_1444 ?_
  refine W.eq (g2 := F0 m 1445 ls [.int (xs (i + 4)), .int (xs (i + 3)), .int (xs (i + 2)), .int (xs (i + 1)), .ref (bd 0), .int r]) (congrArg (fun z => F0 m 1445 ls (.int (xs z) :: [.int (xs (i + 3)), .int (xs (i + 2)), .int (xs (i + 1)), .ref (bd 0), .int r])) (hi 4 (by decide)).2) ?_
  refine lv_aload_n hx hb dL_law_1445 rfl (lv_at hl 0 rfl) ?_
  refine lv_iload_n hx hb dL_law_1446 rfl (lv_at hl 3 rfl) ?_
  refine lv_iconst (v := 5) hx hb dL_law_1447 (by decide) ?_
  refine lv_iadd hx hb dL_law_1448 ?_
  refine va_sld hx hb hX hbl hbA hS (hi 5 (by decide)).1 dL_law_1449 ?_
  refine W.eq (g2 := F0 m 1450 ls [.int (xs (i + 5)), .int (xs (i + 4)), .int (xs (i + 3)), .int (xs (i + 2)), .int (xs (i + 1)), .ref (bd 0), .int r]) (congrArg (fun z => F0 m 1450 ls (.int (xs z) :: [.int (xs (i + 4)), .int (xs (i + 3)), .int (xs (i + 2)), .int (xs (i + 1)), .ref (bd 0), .int r])) (hi 5 (by decide)).2) ?_
  refine q_cVi (wf := (fun (z : SS) => wL cI cZ cS ad bd σ2 z)) (σ := τ) (wc := wX12 cI cZ cS bd) (σc := τ) (rest := [.int r]) ⟨hx, hb, hml, hown, hts⟩ hK hZ hA hP hD hS hf2 (fun x z ho => kX12_copy l D cI cZ cS zz bd τ (xs (i + 1)) (xs (i + 2)) (xs (i + 3)) (xs (i + 4)) (xs (i + 5)) x z ho) (cwV 5 hts gl_X12_copy rfl rfl rfl (by decide +kernel) ⟨Nat.le_of_ble_eq_true rfl, Nat.le_of_ble_eq_true rfl⟩) isB rfl (inB cI cZ cS ad bd σ2 τ) plB plB_ok (Nat.le_of_ble_eq_true rfl) (fun z => mxB cI cZ cS ad bd σ2 τ z) (fun _ => rfl) (fun z => adB cI cZ cS ad bd σ2 τ z) rfl rfl rfl rfl (hl.1) rfl (Nat.le_of_ble_eq_true rfl) dL_law_1450 ⟨Nat.le_of_ble_eq_true rfl, Nat.le_of_ble_eq_true rfl⟩ (fun x z H locs hf hP hD hS => ?_)
  obtain ⟨hq1, hq2⟩ := Prod.mk.inj (Option.some.inj hf)
  rw [hq1]
  rw [hq2] at hP hD
  refine lv_icmp_eq (tgt := 1589) hx hb dL_law_1453 (by decide) (fun _ => ?_) (fun h => absurd rfl h)
  exact nx σ2 τ2 H locs ls hR2 hP hD hS hl
set_option maxRecDepth 100000 in
set_option maxHeartbeats 4000000 in
theorem lc_load (C : LX p s m meth c b Ln xs D cI cZ cS zz) (hs : S_load Rel) (ad bd : Nat → Nat) (i : Nat) (x3 : Int32) (hi : ∀ k : Nat, k < 6 → vp_in (x3 + nI k) Ln ∧ (x3 + nI k).toNatClampNeg = i + k) (nx : ∀ (σ τ : SS) (H : Heap) (locs : List Loc) (ls : Array Slot), Rel σ τ → va_P D vwCl (wL cI cZ cS ad bd σ τ) H → va_D (lA s) (wL cI cZ cS ad bd σ τ) → va_S (lA s) s.heap H locs → lv_has ls 4 [(0, .ref b), (1, .ref (ad 0)), (2, .ref (bd 0)), (3, .int x3)] → W p l e room_1 s m #[Value.ref b] below meth c H locs 84 5639 (lw_Z below #[Value.ref b] s) (F0 m 1589 ls [])) (σ τ : SS) (H : Heap) (locs : List Loc) (ls : Array Slot) (hR : Rel σ τ) (hP : va_P D vwCl (wL cI cZ cS ad bd σ τ) H) (hD : va_D (lA s) (wL cI cZ cS ad bd σ τ)) (hS : va_S (lA s) s.heap H locs) (hl : lv_has ls 4 [(0, .ref b), (1, .ref (ad 0)), (2, .ref (bd 0)), (3, .int x3)]) : W p l e room_1 s m #[Value.ref b] below meth c H locs 84 5639 (lw_Z below #[Value.ref b] s) (F0 m 1458 ls []) := by
  obtain ⟨hx, hb, hml, hown, hts, hK, hZ, hX, hbl, hlocks, hr⟩ := id C
  have hbA : ¬ lA s b := Nat.not_le.mpr hbl
  have hA : ∀ q, s.heap.size ≤ q → lA s q := fun _ h => h
  obtain ⟨r, σ2, τ2, h1, h2, hR2⟩ := hs σ τ (xs (i + 1)) hR
  have hf1 : q_ci (pX11_load σ (xs (i + 1))) (fun τ => τ) (fun x y => some (x, y)) = some (r, σ2) := by rw [h1]; rfl
  have hf2 : q_ci (pX12_load τ (xs (i + 1))) (fun τ => τ) (fun x y => some (x, y)) = some (r, τ2) := by rw [h2]; rfl
  refine lv_aload_n hx hb dL_law_1458 rfl (lv_at hl 1 rfl) ?_
  refine lv_aload_n hx hb dL_law_1459 rfl (lv_at hl 0 rfl) ?_
  refine lv_iload_n hx hb dL_law_1460 rfl (lv_at hl 3 rfl) ?_
  refine lv_iconst (v := 1) hx hb dL_law_1461 (by decide) ?_
  refine lv_iadd hx hb dL_law_1462 ?_
  refine va_sld hx hb hX hbl hbA hS (hi 1 (by decide)).1 dL_law_1463 ?_
  refine W.eq (g2 := F0 m 1464 ls [.int (xs (i + 1)), .ref (ad 0)]) (congrArg (fun z => F0 m 1464 ls (.int (xs z) :: [.ref (ad 0)])) (hi 1 (by decide)).2) ?_
  refine q_cVi (wf := (fun (z : SS) => wL cI cZ cS ad bd z τ)) (σ := σ) (wc := wX11 cI cZ cS ad) (σc := σ) (rest := []) ⟨hx, hb, hml, hown, hts⟩ hK hZ hA hP hD hS hf1 (fun x z ho => kX11_load l D cI cZ cS zz ad σ (xs (i + 1)) x z ho) (cwV 1 hts gl_X11_load rfl rfl rfl (by decide +kernel) ⟨Nat.le_of_ble_eq_true rfl, Nat.le_of_ble_eq_true rfl⟩) isA rfl (inA cI cZ cS ad bd σ τ) plA plA_ok (Nat.le_of_ble_eq_true rfl) (fun z => mxA cI cZ cS ad bd σ τ z) (fun _ => rfl) (fun z => adA cI cZ cS ad bd σ τ z) rfl rfl rfl rfl (hl.1) rfl (Nat.le_of_ble_eq_true rfl) dL_law_1464 ⟨Nat.le_of_ble_eq_true rfl, Nat.le_of_ble_eq_true rfl⟩ (fun x z H locs hf hP hD hS => ?_)
  obtain ⟨hq1, hq2⟩ := Prod.mk.inj (Option.some.inj hf)
  rw [hq1]
  rw [hq2] at hP hD
  refine lv_aload_n hx hb dL_law_1467 rfl (lv_at hl 2 rfl) ?_
  refine lv_aload_n hx hb dL_law_1468 rfl (lv_at hl 0 rfl) ?_
  refine lv_iload_n hx hb dL_law_1469 rfl (lv_at hl 3 rfl) ?_
  refine lv_iconst (v := 1) hx hb dL_law_1470 (by decide) ?_
  refine lv_iadd hx hb dL_law_1471 ?_
  refine va_sld hx hb hX hbl hbA hS (hi 1 (by decide)).1 dL_law_1472 ?_
  refine W.eq (g2 := F0 m 1473 ls [.int (xs (i + 1)), .ref (bd 0), .int r]) (congrArg (fun z => F0 m 1473 ls (.int (xs z) :: [.ref (bd 0), .int r])) (hi 1 (by decide)).2) ?_
  refine q_cVi (wf := (fun (z : SS) => wL cI cZ cS ad bd σ2 z)) (σ := τ) (wc := wX12 cI cZ cS bd) (σc := τ) (rest := [.int r]) ⟨hx, hb, hml, hown, hts⟩ hK hZ hA hP hD hS hf2 (fun x z ho => kX12_load l D cI cZ cS zz bd τ (xs (i + 1)) x z ho) (cwV 1 hts gl_X12_load rfl rfl rfl (by decide +kernel) ⟨Nat.le_of_ble_eq_true rfl, Nat.le_of_ble_eq_true rfl⟩) isB rfl (inB cI cZ cS ad bd σ2 τ) plB plB_ok (Nat.le_of_ble_eq_true rfl) (fun z => mxB cI cZ cS ad bd σ2 τ z) (fun _ => rfl) (fun z => adB cI cZ cS ad bd σ2 τ z) rfl rfl rfl rfl (hl.1) rfl (Nat.le_of_ble_eq_true rfl) dL_law_1473 ⟨Nat.le_of_ble_eq_true rfl, Nat.le_of_ble_eq_true rfl⟩ (fun x z H locs hf hP hD hS => ?_)
  obtain ⟨hq1, hq2⟩ := Prod.mk.inj (Option.some.inj hf)
  rw [hq1]
  rw [hq2] at hP hD
  refine lv_icmp_eq (tgt := 1589) hx hb dL_law_1476 (by decide) (fun _ => ?_) (fun h => absurd rfl h)
  exact nx σ2 τ2 H locs ls hR2 hP hD hS hl
set_option maxRecDepth 100000 in
set_option maxHeartbeats 4000000 in
theorem lc_judge (C : LX p s m meth c b Ln xs D cI cZ cS zz) (hs : S_judge Rel) (ad bd : Nat → Nat) (i : Nat) (x3 : Int32) (hi : ∀ k : Nat, k < 6 → vp_in (x3 + nI k) Ln ∧ (x3 + nI k).toNatClampNeg = i + k) (nx : ∀ (σ τ : SS) (H : Heap) (locs : List Loc) (ls : Array Slot), Rel σ τ → va_P D vwCl (wL cI cZ cS ad bd σ τ) H → va_D (lA s) (wL cI cZ cS ad bd σ τ) → va_S (lA s) s.heap H locs → lv_has ls 4 [(0, .ref b), (1, .ref (ad 0)), (2, .ref (bd 0)), (3, .int x3)] → W p l e room_1 s m #[Value.ref b] below meth c H locs 84 5639 (lw_Z below #[Value.ref b] s) (F0 m 1589 ls [])) (σ τ : SS) (H : Heap) (locs : List Loc) (ls : Array Slot) (hR : Rel σ τ) (hP : va_P D vwCl (wL cI cZ cS ad bd σ τ) H) (hD : va_D (lA s) (wL cI cZ cS ad bd σ τ)) (hS : va_S (lA s) s.heap H locs) (hl : lv_has ls 4 [(0, .ref b), (1, .ref (ad 0)), (2, .ref (bd 0)), (3, .int x3)]) : W p l e room_1 s m #[Value.ref b] below meth c H locs 84 5639 (lw_Z below #[Value.ref b] s) (F0 m 1481 ls []) := by
  obtain ⟨hx, hb, hml, hown, hts, hK, hZ, hX, hbl, hlocks, hr⟩ := id C
  have hbA : ¬ lA s b := Nat.not_le.mpr hbl
  have hA : ∀ q, s.heap.size ≤ q → lA s q := fun _ h => h
  obtain ⟨r, σ2, τ2, h1, h2, hR2⟩ := hs σ τ (xs (i + 1)) hR
  have hf1 : q_ci (pX11_judge σ (xs (i + 1))) (fun τ => τ) (fun x y => some (x, y)) = some (r, σ2) := by rw [h1]; rfl
  have hf2 : q_ci (pX12_judge τ (xs (i + 1))) (fun τ => τ) (fun x y => some (x, y)) = some (r, τ2) := by rw [h2]; rfl
  refine lv_aload_n hx hb dL_law_1481 rfl (lv_at hl 1 rfl) ?_
  refine lv_aload_n hx hb dL_law_1482 rfl (lv_at hl 0 rfl) ?_
  refine lv_iload_n hx hb dL_law_1483 rfl (lv_at hl 3 rfl) ?_
  refine lv_iconst (v := 1) hx hb dL_law_1484 (by decide) ?_
  refine lv_iadd hx hb dL_law_1485 ?_
  refine va_sld hx hb hX hbl hbA hS (hi 1 (by decide)).1 dL_law_1486 ?_
  refine W.eq (g2 := F0 m 1487 ls [.int (xs (i + 1)), .ref (ad 0)]) (congrArg (fun z => F0 m 1487 ls (.int (xs z) :: [.ref (ad 0)])) (hi 1 (by decide)).2) ?_
  refine q_cVi (wf := (fun (z : SS) => wL cI cZ cS ad bd z τ)) (σ := σ) (wc := wX11 cI cZ cS ad) (σc := σ) (rest := []) ⟨hx, hb, hml, hown, hts⟩ hK hZ hA hP hD hS hf1 (fun x z ho => kX11_judge l D cI cZ cS zz ad σ (xs (i + 1)) x z ho) (cwV 1 hts gl_X11_judge rfl rfl rfl (by decide +kernel) ⟨Nat.le_of_ble_eq_true rfl, Nat.le_of_ble_eq_true rfl⟩) isA rfl (inA cI cZ cS ad bd σ τ) plA plA_ok (Nat.le_of_ble_eq_true rfl) (fun z => mxA cI cZ cS ad bd σ τ z) (fun _ => rfl) (fun z => adA cI cZ cS ad bd σ τ z) rfl rfl rfl rfl (hl.1) rfl (Nat.le_of_ble_eq_true rfl) dL_law_1487 ⟨Nat.le_of_ble_eq_true rfl, Nat.le_of_ble_eq_true rfl⟩ (fun x z H locs hf hP hD hS => ?_)
  obtain ⟨hq1, hq2⟩ := Prod.mk.inj (Option.some.inj hf)
  rw [hq1]
  rw [hq2] at hP hD
  refine lv_aload_n hx hb dL_law_1490 rfl (lv_at hl 2 rfl) ?_
  refine lv_aload_n hx hb dL_law_1491 rfl (lv_at hl 0 rfl) ?_
  refine lv_iload_n hx hb dL_law_1492 rfl (lv_at hl 3 rfl) ?_
  refine lv_iconst (v := 1) hx hb dL_law_1493 (by decide) ?_
  refine lv_iadd hx hb dL_law_1494 ?_
  refine va_sld hx hb hX hbl hbA hS (hi 1 (by decide)).1 dL_law_1495 ?_
  refine W.eq (g2 := F0 m 1496 ls [.int (xs (i + 1)), .ref (bd 0), .int r]) (congrArg (fun z => F0 m 1496 ls (.int (xs z) :: [.ref (bd 0), .int r])) (hi 1 (by decide)).2) ?_
  refine q_cVi (wf := (fun (z : SS) => wL cI cZ cS ad bd σ2 z)) (σ := τ) (wc := wX12 cI cZ cS bd) (σc := τ) (rest := [.int r]) ⟨hx, hb, hml, hown, hts⟩ hK hZ hA hP hD hS hf2 (fun x z ho => kX12_judge l D cI cZ cS zz bd τ (xs (i + 1)) x z ho) (cwV 1 hts gl_X12_judge rfl rfl rfl (by decide +kernel) ⟨Nat.le_of_ble_eq_true rfl, Nat.le_of_ble_eq_true rfl⟩) isB rfl (inB cI cZ cS ad bd σ2 τ) plB plB_ok (Nat.le_of_ble_eq_true rfl) (fun z => mxB cI cZ cS ad bd σ2 τ z) (fun _ => rfl) (fun z => adB cI cZ cS ad bd σ2 τ z) rfl rfl rfl rfl (hl.1) rfl (Nat.le_of_ble_eq_true rfl) dL_law_1496 ⟨Nat.le_of_ble_eq_true rfl, Nat.le_of_ble_eq_true rfl⟩ (fun x z H locs hf hP hD hS => ?_)
  obtain ⟨hq1, hq2⟩ := Prod.mk.inj (Option.some.inj hf)
  rw [hq1]
  rw [hq2] at hP hD
  refine lv_icmp_eq (tgt := 1589) hx hb dL_law_1499 (by decide) (fun _ => ?_) (fun h => absurd rfl h)
  exact nx σ2 τ2 H locs ls hR2 hP hD hS hl
set_option maxRecDepth 100000 in
set_option maxHeartbeats 4000000 in
theorem lc_image (C : LX p s m meth c b Ln xs D cI cZ cS zz) (hs : S_image Rel) (ad bd : Nat → Nat) (i : Nat) (x3 : Int32) (hi : ∀ k : Nat, k < 6 → vp_in (x3 + nI k) Ln ∧ (x3 + nI k).toNatClampNeg = i + k) (nx : ∀ (σ τ : SS) (H : Heap) (locs : List Loc) (ls : Array Slot), Rel σ τ → va_P D vwCl (wL cI cZ cS ad bd σ τ) H → va_D (lA s) (wL cI cZ cS ad bd σ τ) → va_S (lA s) s.heap H locs → lv_has ls 4 [(0, .ref b), (1, .ref (ad 0)), (2, .ref (bd 0)), (3, .int x3)] → W p l e room_1 s m #[Value.ref b] below meth c H locs 84 5639 (lw_Z below #[Value.ref b] s) (F0 m 1589 ls [])) (σ τ : SS) (H : Heap) (locs : List Loc) (ls : Array Slot) (hR : Rel σ τ) (hP : va_P D vwCl (wL cI cZ cS ad bd σ τ) H) (hD : va_D (lA s) (wL cI cZ cS ad bd σ τ)) (hS : va_S (lA s) s.heap H locs) (hl : lv_has ls 4 [(0, .ref b), (1, .ref (ad 0)), (2, .ref (bd 0)), (3, .int x3)]) : W p l e room_1 s m #[Value.ref b] below meth c H locs 84 5639 (lw_Z below #[Value.ref b] s) (F0 m 1504 ls []) := by
  obtain ⟨hx, hb, hml, hown, hts, hK, hZ, hX, hbl, hlocks, hr⟩ := id C
  have hbA : ¬ lA s b := Nat.not_le.mpr hbl
  have hA : ∀ q, s.heap.size ≤ q → lA s q := fun _ h => h
  obtain ⟨r, σ2, τ2, h1, h2, hR2⟩ := hs σ τ  hR
  have hf1 : q_ci (pX11_image σ) (fun τ => τ) (fun x y => some (x, y)) = some (r, σ2) := by rw [h1]; rfl
  have hf2 : q_ci (pX12_image τ) (fun τ => τ) (fun x y => some (x, y)) = some (r, τ2) := by rw [h2]; rfl
  refine lv_aload_n hx hb dL_law_1504 rfl (lv_at hl 1 rfl) ?_
  refine q_cVi (wf := (fun (z : SS) => wL cI cZ cS ad bd z τ)) (σ := σ) (wc := wX11 cI cZ cS ad) (σc := σ) (rest := []) ⟨hx, hb, hml, hown, hts⟩ hK hZ hA hP hD hS hf1 (fun x z ho => kX11_image l D cI cZ cS zz ad σ  x z ho) (cwV 0 hts gl_X11_image rfl rfl rfl (by decide +kernel) ⟨Nat.le_of_ble_eq_true rfl, Nat.le_of_ble_eq_true rfl⟩) isA rfl (inA cI cZ cS ad bd σ τ) plA plA_ok (Nat.le_of_ble_eq_true rfl) (fun z => mxA cI cZ cS ad bd σ τ z) (fun _ => rfl) (fun z => adA cI cZ cS ad bd σ τ z) rfl rfl rfl rfl (hl.1) rfl (Nat.le_of_ble_eq_true rfl) dL_law_1505 ⟨Nat.le_of_ble_eq_true rfl, Nat.le_of_ble_eq_true rfl⟩ (fun x z H locs hf hP hD hS => ?_)
  obtain ⟨hq1, hq2⟩ := Prod.mk.inj (Option.some.inj hf)
  rw [hq1]
  rw [hq2] at hP hD
  refine lv_aload_n hx hb dL_law_1508 rfl (lv_at hl 2 rfl) ?_
  refine q_cVi (wf := (fun (z : SS) => wL cI cZ cS ad bd σ2 z)) (σ := τ) (wc := wX12 cI cZ cS bd) (σc := τ) (rest := [.int r]) ⟨hx, hb, hml, hown, hts⟩ hK hZ hA hP hD hS hf2 (fun x z ho => kX12_image l D cI cZ cS zz bd τ  x z ho) (cwV 0 hts gl_X12_image rfl rfl rfl (by decide +kernel) ⟨Nat.le_of_ble_eq_true rfl, Nat.le_of_ble_eq_true rfl⟩) isB rfl (inB cI cZ cS ad bd σ2 τ) plB plB_ok (Nat.le_of_ble_eq_true rfl) (fun z => mxB cI cZ cS ad bd σ2 τ z) (fun _ => rfl) (fun z => adB cI cZ cS ad bd σ2 τ z) rfl rfl rfl rfl (hl.1) rfl (Nat.le_of_ble_eq_true rfl) dL_law_1509 ⟨Nat.le_of_ble_eq_true rfl, Nat.le_of_ble_eq_true rfl⟩ (fun x z H locs hf hP hD hS => ?_)
  obtain ⟨hq1, hq2⟩ := Prod.mk.inj (Option.some.inj hf)
  rw [hq1]
  rw [hq2] at hP hD
  refine lv_icmp_eq (tgt := 1589) hx hb dL_law_1512 (by decide) (fun _ => ?_) (fun h => absurd rfl h)
  exact nx σ2 τ2 H locs ls hR2 hP hD hS hl
set_option maxRecDepth 100000 in
set_option maxHeartbeats 4000000 in
theorem lc_undo (C : LX p s m meth c b Ln xs D cI cZ cS zz) (hs : S_undo Rel) (ad bd : Nat → Nat) (i : Nat) (x3 : Int32) (hi : ∀ k : Nat, k < 6 → vp_in (x3 + nI k) Ln ∧ (x3 + nI k).toNatClampNeg = i + k) (nx : ∀ (σ τ : SS) (H : Heap) (locs : List Loc) (ls : Array Slot), Rel σ τ → va_P D vwCl (wL cI cZ cS ad bd σ τ) H → va_D (lA s) (wL cI cZ cS ad bd σ τ) → va_S (lA s) s.heap H locs → lv_has ls 4 [(0, .ref b), (1, .ref (ad 0)), (2, .ref (bd 0)), (3, .int x3)] → W p l e room_1 s m #[Value.ref b] below meth c H locs 84 5639 (lw_Z below #[Value.ref b] s) (F0 m 1589 ls [])) (σ τ : SS) (H : Heap) (locs : List Loc) (ls : Array Slot) (hR : Rel σ τ) (hP : va_P D vwCl (wL cI cZ cS ad bd σ τ) H) (hD : va_D (lA s) (wL cI cZ cS ad bd σ τ)) (hS : va_S (lA s) s.heap H locs) (hl : lv_has ls 4 [(0, .ref b), (1, .ref (ad 0)), (2, .ref (bd 0)), (3, .int x3)]) : W p l e room_1 s m #[Value.ref b] below meth c H locs 84 5639 (lw_Z below #[Value.ref b] s) (F0 m 1517 ls []) := by
  obtain ⟨hx, hb, hml, hown, hts, hK, hZ, hX, hbl, hlocks, hr⟩ := id C
  have hbA : ¬ lA s b := Nat.not_le.mpr hbl
  have hA : ∀ q, s.heap.size ≤ q → lA s q := fun _ h => h
  obtain ⟨r, σ2, τ2, h1, h2, hR2⟩ := hs σ τ  hR
  have hf1 : q_ci (pX11_undo σ) (fun τ => τ) (fun x y => some (x, y)) = some (r, σ2) := by rw [h1]; rfl
  have hf2 : q_ci (pX12_undo τ) (fun τ => τ) (fun x y => some (x, y)) = some (r, τ2) := by rw [h2]; rfl
  refine lv_aload_n hx hb dL_law_1517 rfl (lv_at hl 1 rfl) ?_
  refine q_cVi (wf := (fun (z : SS) => wL cI cZ cS ad bd z τ)) (σ := σ) (wc := wX11 cI cZ cS ad) (σc := σ) (rest := []) ⟨hx, hb, hml, hown, hts⟩ hK hZ hA hP hD hS hf1 (fun x z ho => kX11_undo l D cI cZ cS zz ad σ  x z ho) (cwV 0 hts gl_X11_undo rfl rfl rfl (by decide +kernel) ⟨Nat.le_of_ble_eq_true rfl, Nat.le_of_ble_eq_true rfl⟩) isA rfl (inA cI cZ cS ad bd σ τ) plA plA_ok (Nat.le_of_ble_eq_true rfl) (fun z => mxA cI cZ cS ad bd σ τ z) (fun _ => rfl) (fun z => adA cI cZ cS ad bd σ τ z) rfl rfl rfl rfl (hl.1) rfl (Nat.le_of_ble_eq_true rfl) dL_law_1518 ⟨Nat.le_of_ble_eq_true rfl, Nat.le_of_ble_eq_true rfl⟩ (fun x z H locs hf hP hD hS => ?_)
  obtain ⟨hq1, hq2⟩ := Prod.mk.inj (Option.some.inj hf)
  rw [hq1]
  rw [hq2] at hP hD
  refine lv_aload_n hx hb dL_law_1521 rfl (lv_at hl 2 rfl) ?_
  refine q_cVi (wf := (fun (z : SS) => wL cI cZ cS ad bd σ2 z)) (σ := τ) (wc := wX12 cI cZ cS bd) (σc := τ) (rest := [.int r]) ⟨hx, hb, hml, hown, hts⟩ hK hZ hA hP hD hS hf2 (fun x z ho => kX12_undo l D cI cZ cS zz bd τ  x z ho) (cwV 0 hts gl_X12_undo rfl rfl rfl (by decide +kernel) ⟨Nat.le_of_ble_eq_true rfl, Nat.le_of_ble_eq_true rfl⟩) isB rfl (inB cI cZ cS ad bd σ2 τ) plB plB_ok (Nat.le_of_ble_eq_true rfl) (fun z => mxB cI cZ cS ad bd σ2 τ z) (fun _ => rfl) (fun z => adB cI cZ cS ad bd σ2 τ z) rfl rfl rfl rfl (hl.1) rfl (Nat.le_of_ble_eq_true rfl) dL_law_1522 ⟨Nat.le_of_ble_eq_true rfl, Nat.le_of_ble_eq_true rfl⟩ (fun x z H locs hf hP hD hS => ?_)
  obtain ⟨hq1, hq2⟩ := Prod.mk.inj (Option.some.inj hf)
  rw [hq1]
  rw [hq2] at hP hD
  refine lv_icmp_eq (tgt := 1589) hx hb dL_law_1525 (by decide) (fun _ => ?_) (fun h => absurd rfl h)
  exact nx σ2 τ2 H locs ls hR2 hP hD hS hl
set_option maxRecDepth 100000 in
set_option maxHeartbeats 4000000 in
theorem lc_tear (C : LX p s m meth c b Ln xs D cI cZ cS zz) (hs : S_tear Rel) (ad bd : Nat → Nat) (i : Nat) (x3 : Int32) (hi : ∀ k : Nat, k < 6 → vp_in (x3 + nI k) Ln ∧ (x3 + nI k).toNatClampNeg = i + k) (nx : ∀ (σ τ : SS) (H : Heap) (locs : List Loc) (ls : Array Slot), Rel σ τ → va_P D vwCl (wL cI cZ cS ad bd σ τ) H → va_D (lA s) (wL cI cZ cS ad bd σ τ) → va_S (lA s) s.heap H locs → lv_has ls 4 [(0, .ref b), (1, .ref (ad 0)), (2, .ref (bd 0)), (3, .int x3)] → W p l e room_1 s m #[Value.ref b] below meth c H locs 84 5639 (lw_Z below #[Value.ref b] s) (F0 m 1589 ls [])) (σ τ : SS) (H : Heap) (locs : List Loc) (ls : Array Slot) (hR : Rel σ τ) (hP : va_P D vwCl (wL cI cZ cS ad bd σ τ) H) (hD : va_D (lA s) (wL cI cZ cS ad bd σ τ)) (hS : va_S (lA s) s.heap H locs) (hl : lv_has ls 4 [(0, .ref b), (1, .ref (ad 0)), (2, .ref (bd 0)), (3, .int x3)]) : W p l e room_1 s m #[Value.ref b] below meth c H locs 84 5639 (lw_Z below #[Value.ref b] s) (F0 m 1530 ls []) := by
  obtain ⟨hx, hb, hml, hown, hts, hK, hZ, hX, hbl, hlocks, hr⟩ := id C
  have hbA : ¬ lA s b := Nat.not_le.mpr hbl
  have hA : ∀ q, s.heap.size ≤ q → lA s q := fun _ h => h
  obtain ⟨r, σ2, τ2, h1, h2, hR2⟩ := hs σ τ  hR
  have hf1 : q_ci (pX11_tear σ) (fun τ => τ) (fun x y => some (x, y)) = some (r, σ2) := by rw [h1]; rfl
  have hf2 : q_ci (pX12_tear τ) (fun τ => τ) (fun x y => some (x, y)) = some (r, τ2) := by rw [h2]; rfl
  refine lv_aload_n hx hb dL_law_1530 rfl (lv_at hl 1 rfl) ?_
  refine q_cVi (wf := (fun (z : SS) => wL cI cZ cS ad bd z τ)) (σ := σ) (wc := wX11 cI cZ cS ad) (σc := σ) (rest := []) ⟨hx, hb, hml, hown, hts⟩ hK hZ hA hP hD hS hf1 (fun x z ho => kX11_tear l D cI cZ cS zz ad σ  x z ho) (cwV 0 hts gl_X11_tear rfl rfl rfl (by decide +kernel) ⟨Nat.le_of_ble_eq_true rfl, Nat.le_of_ble_eq_true rfl⟩) isA rfl (inA cI cZ cS ad bd σ τ) plA plA_ok (Nat.le_of_ble_eq_true rfl) (fun z => mxA cI cZ cS ad bd σ τ z) (fun _ => rfl) (fun z => adA cI cZ cS ad bd σ τ z) rfl rfl rfl rfl (hl.1) rfl (Nat.le_of_ble_eq_true rfl) dL_law_1531 ⟨Nat.le_of_ble_eq_true rfl, Nat.le_of_ble_eq_true rfl⟩ (fun x z H locs hf hP hD hS => ?_)
  obtain ⟨hq1, hq2⟩ := Prod.mk.inj (Option.some.inj hf)
  rw [hq1]
  rw [hq2] at hP hD
  refine lv_aload_n hx hb dL_law_1534 rfl (lv_at hl 2 rfl) ?_
  refine q_cVi (wf := (fun (z : SS) => wL cI cZ cS ad bd σ2 z)) (σ := τ) (wc := wX12 cI cZ cS bd) (σc := τ) (rest := [.int r]) ⟨hx, hb, hml, hown, hts⟩ hK hZ hA hP hD hS hf2 (fun x z ho => kX12_tear l D cI cZ cS zz bd τ  x z ho) (cwV 0 hts gl_X12_tear rfl rfl rfl (by decide +kernel) ⟨Nat.le_of_ble_eq_true rfl, Nat.le_of_ble_eq_true rfl⟩) isB rfl (inB cI cZ cS ad bd σ2 τ) plB plB_ok (Nat.le_of_ble_eq_true rfl) (fun z => mxB cI cZ cS ad bd σ2 τ z) (fun _ => rfl) (fun z => adB cI cZ cS ad bd σ2 τ z) rfl rfl rfl rfl (hl.1) rfl (Nat.le_of_ble_eq_true rfl) dL_law_1535 ⟨Nat.le_of_ble_eq_true rfl, Nat.le_of_ble_eq_true rfl⟩ (fun x z H locs hf hP hD hS => ?_)
  obtain ⟨hq1, hq2⟩ := Prod.mk.inj (Option.some.inj hf)
  rw [hq1]
  rw [hq2] at hP hD
  refine lv_icmp_eq (tgt := 1589) hx hb dL_law_1538 (by decide) (fun _ => ?_) (fun h => absurd rfl h)
  exact nx σ2 τ2 H locs ls hR2 hP hD hS hl
set_option maxRecDepth 100000 in
set_option maxHeartbeats 4000000 in
theorem lc_count (C : LX p s m meth c b Ln xs D cI cZ cS zz) (hs : S_count Rel) (ad bd : Nat → Nat) (i : Nat) (x3 : Int32) (hi : ∀ k : Nat, k < 6 → vp_in (x3 + nI k) Ln ∧ (x3 + nI k).toNatClampNeg = i + k) (nx : ∀ (σ τ : SS) (H : Heap) (locs : List Loc) (ls : Array Slot), Rel σ τ → va_P D vwCl (wL cI cZ cS ad bd σ τ) H → va_D (lA s) (wL cI cZ cS ad bd σ τ) → va_S (lA s) s.heap H locs → lv_has ls 4 [(0, .ref b), (1, .ref (ad 0)), (2, .ref (bd 0)), (3, .int x3)] → W p l e room_1 s m #[Value.ref b] below meth c H locs 84 5639 (lw_Z below #[Value.ref b] s) (F0 m 1589 ls [])) (σ τ : SS) (H : Heap) (locs : List Loc) (ls : Array Slot) (hR : Rel σ τ) (hP : va_P D vwCl (wL cI cZ cS ad bd σ τ) H) (hD : va_D (lA s) (wL cI cZ cS ad bd σ τ)) (hS : va_S (lA s) s.heap H locs) (hl : lv_has ls 4 [(0, .ref b), (1, .ref (ad 0)), (2, .ref (bd 0)), (3, .int x3)]) : W p l e room_1 s m #[Value.ref b] below meth c H locs 84 5639 (lw_Z below #[Value.ref b] s) (F0 m 1543 ls []) := by
  obtain ⟨hx, hb, hml, hown, hts, hK, hZ, hX, hbl, hlocks, hr⟩ := id C
  have hbA : ¬ lA s b := Nat.not_le.mpr hbl
  have hA : ∀ q, s.heap.size ≤ q → lA s q := fun _ h => h
  obtain ⟨r, σ2, τ2, h1, h2, hR2⟩ := hs σ τ (xs (i + 1)) hR
  have hf1 : q_ci (pX11_count σ (xs (i + 1))) (fun τ => τ) (fun x y => some (x, y)) = some (r, σ2) := by rw [h1]; rfl
  have hf2 : q_ci (pX12_count τ (xs (i + 1))) (fun τ => τ) (fun x y => some (x, y)) = some (r, τ2) := by rw [h2]; rfl
  refine lv_aload_n hx hb dL_law_1543 rfl (lv_at hl 1 rfl) ?_
  refine lv_aload_n hx hb dL_law_1544 rfl (lv_at hl 0 rfl) ?_
  refine lv_iload_n hx hb dL_law_1545 rfl (lv_at hl 3 rfl) ?_
  refine lv_iconst (v := 1) hx hb dL_law_1546 (by decide) ?_
  refine lv_iadd hx hb dL_law_1547 ?_
  refine va_sld hx hb hX hbl hbA hS (hi 1 (by decide)).1 dL_law_1548 ?_
  refine W.eq (g2 := F0 m 1549 ls [.int (xs (i + 1)), .ref (ad 0)]) (congrArg (fun z => F0 m 1549 ls (.int (xs z) :: [.ref (ad 0)])) (hi 1 (by decide)).2) ?_
  refine q_cVi (wf := (fun (z : SS) => wL cI cZ cS ad bd z τ)) (σ := σ) (wc := wX11 cI cZ cS ad) (σc := σ) (rest := []) ⟨hx, hb, hml, hown, hts⟩ hK hZ hA hP hD hS hf1 (fun x z ho => kX11_count l D cI cZ cS zz ad σ (xs (i + 1)) x z ho) (cwV 1 hts gl_X11_count rfl rfl rfl (by decide +kernel) ⟨Nat.le_of_ble_eq_true rfl, Nat.le_of_ble_eq_true rfl⟩) isA rfl (inA cI cZ cS ad bd σ τ) plA plA_ok (Nat.le_of_ble_eq_true rfl) (fun z => mxA cI cZ cS ad bd σ τ z) (fun _ => rfl) (fun z => adA cI cZ cS ad bd σ τ z) rfl rfl rfl rfl (hl.1) rfl (Nat.le_of_ble_eq_true rfl) dL_law_1549 ⟨Nat.le_of_ble_eq_true rfl, Nat.le_of_ble_eq_true rfl⟩ (fun x z H locs hf hP hD hS => ?_)
  obtain ⟨hq1, hq2⟩ := Prod.mk.inj (Option.some.inj hf)
  rw [hq1]
  rw [hq2] at hP hD
  refine lv_aload_n hx hb dL_law_1552 rfl (lv_at hl 2 rfl) ?_
  refine lv_aload_n hx hb dL_law_1553 rfl (lv_at hl 0 rfl) ?_
  refine lv_iload_n hx hb dL_law_1554 rfl (lv_at hl 3 rfl) ?_
  refine lv_iconst (v := 1) hx hb dL_law_1555 (by decide) ?_
  refine lv_iadd hx hb dL_law_1556 ?_
  refine va_sld hx hb hX hbl hbA hS (hi 1 (by decide)).1 dL_law_1557 ?_
  refine W.eq (g2 := F0 m 1558 ls [.int (xs (i + 1)), .ref (bd 0), .int r]) (congrArg (fun z => F0 m 1558 ls (.int (xs z) :: [.ref (bd 0), .int r])) (hi 1 (by decide)).2) ?_
  refine q_cVi (wf := (fun (z : SS) => wL cI cZ cS ad bd σ2 z)) (σ := τ) (wc := wX12 cI cZ cS bd) (σc := τ) (rest := [.int r]) ⟨hx, hb, hml, hown, hts⟩ hK hZ hA hP hD hS hf2 (fun x z ho => kX12_count l D cI cZ cS zz bd τ (xs (i + 1)) x z ho) (cwV 1 hts gl_X12_count rfl rfl rfl (by decide +kernel) ⟨Nat.le_of_ble_eq_true rfl, Nat.le_of_ble_eq_true rfl⟩) isB rfl (inB cI cZ cS ad bd σ2 τ) plB plB_ok (Nat.le_of_ble_eq_true rfl) (fun z => mxB cI cZ cS ad bd σ2 τ z) (fun _ => rfl) (fun z => adB cI cZ cS ad bd σ2 τ z) rfl rfl rfl rfl (hl.1) rfl (Nat.le_of_ble_eq_true rfl) dL_law_1558 ⟨Nat.le_of_ble_eq_true rfl, Nat.le_of_ble_eq_true rfl⟩ (fun x z H locs hf hP hD hS => ?_)
  obtain ⟨hq1, hq2⟩ := Prod.mk.inj (Option.some.inj hf)
  rw [hq1]
  rw [hq2] at hP hD
  refine lv_icmp_eq (tgt := 1589) hx hb dL_law_1561 (by decide) (fun _ => ?_) (fun h => absurd rfl h)
  exact nx σ2 τ2 H locs ls hR2 hP hD hS hl
set_option maxRecDepth 100000 in
set_option maxHeartbeats 4000000 in
theorem lc_status (C : LX p s m meth c b Ln xs D cI cZ cS zz) (hs : S_status Rel) (ad bd : Nat → Nat) (i : Nat) (x3 : Int32) (hi : ∀ k : Nat, k < 6 → vp_in (x3 + nI k) Ln ∧ (x3 + nI k).toNatClampNeg = i + k) (nx : ∀ (σ τ : SS) (H : Heap) (locs : List Loc) (ls : Array Slot), Rel σ τ → va_P D vwCl (wL cI cZ cS ad bd σ τ) H → va_D (lA s) (wL cI cZ cS ad bd σ τ) → va_S (lA s) s.heap H locs → lv_has ls 4 [(0, .ref b), (1, .ref (ad 0)), (2, .ref (bd 0)), (3, .int x3)] → W p l e room_1 s m #[Value.ref b] below meth c H locs 84 5639 (lw_Z below #[Value.ref b] s) (F0 m 1589 ls [])) (σ τ : SS) (H : Heap) (locs : List Loc) (ls : Array Slot) (hR : Rel σ τ) (hP : va_P D vwCl (wL cI cZ cS ad bd σ τ) H) (hD : va_D (lA s) (wL cI cZ cS ad bd σ τ)) (hS : va_S (lA s) s.heap H locs) (hl : lv_has ls 4 [(0, .ref b), (1, .ref (ad 0)), (2, .ref (bd 0)), (3, .int x3)]) : W p l e room_1 s m #[Value.ref b] below meth c H locs 84 5639 (lw_Z below #[Value.ref b] s) (F0 m 1566 ls []) := by
  obtain ⟨hx, hb, hml, hown, hts, hK, hZ, hX, hbl, hlocks, hr⟩ := id C
  have hbA : ¬ lA s b := Nat.not_le.mpr hbl
  have hA : ∀ q, s.heap.size ≤ q → lA s q := fun _ h => h
  obtain ⟨r, σ2, τ2, h1, h2, hR2⟩ := hs σ τ (xs (i + 1)) hR
  have hf1 : q_ci (pX11_status σ (xs (i + 1))) (fun τ => τ) (fun x y => some (x, y)) = some (r, σ2) := by rw [h1]; rfl
  have hf2 : q_ci (pX12_status τ (xs (i + 1))) (fun τ => τ) (fun x y => some (x, y)) = some (r, τ2) := by rw [h2]; rfl
  refine lv_aload_n hx hb dL_law_1566 rfl (lv_at hl 1 rfl) ?_
  refine lv_aload_n hx hb dL_law_1567 rfl (lv_at hl 0 rfl) ?_
  refine lv_iload_n hx hb dL_law_1568 rfl (lv_at hl 3 rfl) ?_
  refine lv_iconst (v := 1) hx hb dL_law_1569 (by decide) ?_
  refine lv_iadd hx hb dL_law_1570 ?_
  refine va_sld hx hb hX hbl hbA hS (hi 1 (by decide)).1 dL_law_1571 ?_
  refine W.eq (g2 := F0 m 1572 ls [.int (xs (i + 1)), .ref (ad 0)]) (congrArg (fun z => F0 m 1572 ls (.int (xs z) :: [.ref (ad 0)])) (hi 1 (by decide)).2) ?_
  refine q_cVi (wf := (fun (z : SS) => wL cI cZ cS ad bd z τ)) (σ := σ) (wc := wX11 cI cZ cS ad) (σc := σ) (rest := []) ⟨hx, hb, hml, hown, hts⟩ hK hZ hA hP hD hS hf1 (fun x z ho => kX11_status l D cI cZ cS zz ad σ (xs (i + 1)) x z ho) (cwV 1 hts gl_X11_status rfl rfl rfl (by decide +kernel) ⟨Nat.le_of_ble_eq_true rfl, Nat.le_of_ble_eq_true rfl⟩) isA rfl (inA cI cZ cS ad bd σ τ) plA plA_ok (Nat.le_of_ble_eq_true rfl) (fun z => mxA cI cZ cS ad bd σ τ z) (fun _ => rfl) (fun z => adA cI cZ cS ad bd σ τ z) rfl rfl rfl rfl (hl.1) rfl (Nat.le_of_ble_eq_true rfl) dL_law_1572 ⟨Nat.le_of_ble_eq_true rfl, Nat.le_of_ble_eq_true rfl⟩ (fun x z H locs hf hP hD hS => ?_)
  obtain ⟨hq1, hq2⟩ := Prod.mk.inj (Option.some.inj hf)
  rw [hq1]
  rw [hq2] at hP hD
  refine lv_aload_n hx hb dL_law_1575 rfl (lv_at hl 2 rfl) ?_
  refine lv_aload_n hx hb dL_law_1576 rfl (lv_at hl 0 rfl) ?_
  refine lv_iload_n hx hb dL_law_1577 rfl (lv_at hl 3 rfl) ?_
  refine lv_iconst (v := 1) hx hb dL_law_1578 (by decide) ?_
  refine lv_iadd hx hb dL_law_1579 ?_
  refine va_sld hx hb hX hbl hbA hS (hi 1 (by decide)).1 dL_law_1580 ?_
  refine W.eq (g2 := F0 m 1581 ls [.int (xs (i + 1)), .ref (bd 0), .int r]) (congrArg (fun z => F0 m 1581 ls (.int (xs z) :: [.ref (bd 0), .int r])) (hi 1 (by decide)).2) ?_
  refine q_cVi (wf := (fun (z : SS) => wL cI cZ cS ad bd σ2 z)) (σ := τ) (wc := wX12 cI cZ cS bd) (σc := τ) (rest := [.int r]) ⟨hx, hb, hml, hown, hts⟩ hK hZ hA hP hD hS hf2 (fun x z ho => kX12_status l D cI cZ cS zz bd τ (xs (i + 1)) x z ho) (cwV 1 hts gl_X12_status rfl rfl rfl (by decide +kernel) ⟨Nat.le_of_ble_eq_true rfl, Nat.le_of_ble_eq_true rfl⟩) isB rfl (inB cI cZ cS ad bd σ2 τ) plB plB_ok (Nat.le_of_ble_eq_true rfl) (fun z => mxB cI cZ cS ad bd σ2 τ z) (fun _ => rfl) (fun z => adB cI cZ cS ad bd σ2 τ z) rfl rfl rfl rfl (hl.1) rfl (Nat.le_of_ble_eq_true rfl) dL_law_1581 ⟨Nat.le_of_ble_eq_true rfl, Nat.le_of_ble_eq_true rfl⟩ (fun x z H locs hf hP hD hS => ?_)
  obtain ⟨hq1, hq2⟩ := Prod.mk.inj (Option.some.inj hf)
  rw [hq1]
  rw [hq2] at hP hD
  refine lv_icmp_eq (tgt := 1589) hx hb dL_law_1584 (by decide) (fun _ => ?_) (fun h => absurd rfl h)
  exact nx σ2 τ2 H locs ls hR2 hP hD hS hl
set_option maxRecDepth 100000 in
set_option maxHeartbeats 4000000 in
theorem law_loop (C : LX p s m meth c b Ln xs D cI cZ cS zz) (hs : Sims Rel) (hL : Ln ≤ 384) (ad bd : Nat → Nat) : ∀ (n i : Nat) (x3 : Int32), i ≤ Ln + 6 → Ln + 6 - i < n → x3 = nI i → ∀ (σ τ : SS) (H : Heap) (locs : List Loc) (ls : Array Slot), Rel σ τ → va_P D vwCl (wL cI cZ cS ad bd σ τ) H → va_D (lA s) (wL cI cZ cS ad bd σ τ) → va_S (lA s) s.heap H locs → lv_has ls 4 [(0, .ref b), (1, .ref (ad 0)), (2, .ref (bd 0)), (3, .int x3)] → W p l e room_1 s m #[Value.ref b] below meth c H locs 84 5639 (lw_Z below #[Value.ref b] s) (F0 m 18 ls []) := by
  intro n
  induction n with
  | zero => intro i x3 h1 h2; exact absurd h2 (Nat.not_lt_zero _)
  | succ n ih =>
    intro i x3 hi1 hi2 ex3 σ τ H locs ls hR hP hD hS hl
    obtain ⟨hx, hb, hml, hown, hts, hK, hZ, hX, hbl, hlocks, hr⟩ := id C
    have hbA : ¬ lA s b := Nat.not_le.mpr hbl
    refine lv_iload_n hx hb dL_law_18 rfl (lv_at hl 3 rfl) ?_
    refine lv_aload_n hx hb dL_law_19 rfl (lv_at hl 0 rfl) ?_
    refine va_slen hx hb hX hbl hbA hS dL_law_20 ?_
    refine lv_bipush (v := 6) hx hb dL_law_21 (by decide) ?_
    refine lv_isub hx hb dL_law_23 ?_
    have hsub : (Int32.ofNat Ln - 6).toInt = (Ln : Int) - 6 := by
      have h1 : (nI Ln - nI 6).toInt = (Ln : Int) - (6 : Nat) := pk_sub_toInt (by omega) (by omega)
      exact h1
    have hxi : x3.toInt = (i : Int) := by rw [ex3]; exact nI_toInt (by omega)
    refine lv_icmp_gt (tgt := 1595) hx hb dL_law_24 (by decide) (fun hg => ?_) (fun hg => ?_)
    · refine lv_iconst (v := 1) hx hb dL_law_1595 (by decide) ?_
      refine va_forget (fun q hq => hS.2.2 q hq) ?_
      refine W.widen (k := 600000) (n := 7302250) (Nat.le_of_ble_eq_true rfl) (Nat.le_of_ble_eq_true rfl) ?_
      exact lw_ret hx hb hr hlocks dL_law_1596
    have hg2 : i + 6 ≤ Ln := by
      have h1 : ¬ (Int32.ofNat Ln - 6).toInt < x3.toInt := fun h => hg (Int32.lt_iff_toInt_lt.mpr h)
      rw [hsub, hxi] at h1
      omega
    have hi : ∀ k : Nat, k < 6 → vp_in (x3 + nI k) Ln ∧ (x3 + nI k).toNatClampNeg = i + k := by
      intro k hk
      rw [ex3, nI_add]
      exact ⟨vp_in_nI (by omega) (by omega), nI_clamp (by omega)⟩
    have nx : ∀ (σ τ : SS) (H : Heap) (locs : List Loc) (ls : Array Slot), Rel σ τ → va_P D vwCl (wL cI cZ cS ad bd σ τ) H → va_D (lA s) (wL cI cZ cS ad bd σ τ) → va_S (lA s) s.heap H locs → lv_has ls 4 [(0, .ref b), (1, .ref (ad 0)), (2, .ref (bd 0)), (3, .int x3)] → W p l e room_1 s m #[Value.ref b] below meth c H locs 84 5639 (lw_Z below #[Value.ref b] s) (F0 m 1589 ls []) := by
      intro σ τ H locs ls hR hP hD hS hl
      refine lv_iinc (v := x3 + 6) (lv' := [(3, .int (x3 + 6)), (0, .ref b), (1, .ref (ad 0)), (2, .ref (bd 0))]) hx hb dL_law_1589 hl (k := 3) rfl rfl (by decide) rfl (fun ls hl => ?_)
      refine lv_goto (tgt := 18) hx hb dL_law_1592 (by decide) ?_
      exact ih (i + 6) (x3 + 6) (by omega) (by omega) (by rw [ex3]; exact nI_add i 6) σ τ H locs ls hR hP hD hS (lv_sub hl [1, 2, 3, 0] rfl)
    refine lv_aload_n hx hb dL_law_27 rfl (lv_at hl 0 rfl) ?_
    refine lv_iload_n hx hb dL_law_28 rfl (lv_at hl 3 rfl) ?_
    have h0 : vp_in x3 Ln := by rw [ex3]; exact vp_in_nI (by omega) (by omega)
    refine va_sld hx hb hX hbl hbA hS h0 dL_law_29 ?_
    refine lv_bipush (v := 63) hx hb dL_law_30 (by decide) ?_
    refine lv_iand hx hb dL_law_32 ?_
    refine lv_topi (fun w ew => ?_)
    obtain ⟨s_water, s_waterOf, s_change, s_set, s_current, s_flap, s_minutes, s_now, s_renew, s_start, s_quickest, s_came, s_thing, s_thingOf, s_lift, s_down, s_harm, s_feed, s_wipe, s_sky, s_skyOf, s_play, s_ahead, s_under, s_reaches, s_bestOn, s_rateFor, s_batteryFor, s_cost, s_build, s_worth, s_rescue, s_shelf, s_odds, s_seed, s_hold, s_as, s_sheet, s_write, s_copy, s_load, s_judge, s_image, s_undo, s_tear, s_count, s_status⟩ := hs
    by_cases h0 : w = (0 : Int32)
    · refine lv_tableIn (tgt := 236) hx hb dL_law_33 (by rw [h0]; decide) (by rw [h0]; decide) (by rw [h0]; rfl) (by decide) ?_
      exact lc_water C s_water ad bd i x3 hi nx σ τ H locs ls hR hP hD hS hl
    by_cases h1 : w = (1 : Int32)
    · refine lv_tableIn (tgt := 279) hx hb dL_law_33 (by rw [h1]; decide) (by rw [h1]; decide) (by rw [h1]; rfl) (by decide) ?_
      exact lc_waterOf C s_waterOf ad bd i x3 hi nx σ τ H locs ls hR hP hD hS hl
    by_cases h2 : w = (2 : Int32)
    · refine lv_tableIn (tgt := 312) hx hb dL_law_33 (by rw [h2]; decide) (by rw [h2]; decide) (by rw [h2]; rfl) (by decide) ?_
      exact lc_change C s_change ad bd i x3 hi nx σ τ H locs ls hR hP hD hS hl
    by_cases h3 : w = (3 : Int32)
    · refine lv_tableIn (tgt := 355) hx hb dL_law_33 (by rw [h3]; decide) (by rw [h3]; decide) (by rw [h3]; rfl) (by decide) ?_
      exact lc_set C s_set ad bd i x3 hi nx σ τ H locs ls hR hP hD hS hl
    by_cases h4 : w = (4 : Int32)
    · refine lv_tableIn (tgt := 388) hx hb dL_law_33 (by rw [h4]; decide) (by rw [h4]; decide) (by rw [h4]; rfl) (by decide) ?_
      exact lc_current C s_current ad bd i x3 hi nx σ τ H locs ls hR hP hD hS hl
    by_cases h5 : w = (5 : Int32)
    · refine lv_tableIn (tgt := 427) hx hb dL_law_33 (by rw [h5]; decide) (by rw [h5]; decide) (by rw [h5]; rfl) (by decide) ?_
      exact lc_flap C s_flap ad bd i x3 hi nx σ τ H locs ls hR hP hD hS hl
    by_cases h6 : w = (6 : Int32)
    · refine lv_tableIn (tgt := 466) hx hb dL_law_33 (by rw [h6]; decide) (by rw [h6]; decide) (by rw [h6]; rfl) (by decide) ?_
      exact lc_minutes C s_minutes ad bd i x3 hi nx σ τ H locs ls hR hP hD hS hl
    by_cases h7 : w = (7 : Int32)
    · refine lv_tableIn (tgt := 489) hx hb dL_law_33 (by rw [h7]; decide) (by rw [h7]; decide) (by rw [h7]; rfl) (by decide) ?_
      exact lc_now C s_now ad bd i x3 hi nx σ τ H locs ls hR hP hD hS hl
    by_cases h8 : w = (8 : Int32)
    · refine lv_tableIn (tgt := 512) hx hb dL_law_33 (by rw [h8]; decide) (by rw [h8]; decide) (by rw [h8]; rfl) (by decide) ?_
      exact lc_renew C s_renew ad bd i x3 hi nx σ τ H locs ls hR hP hD hS hl
    by_cases h9 : w = (9 : Int32)
    · refine lv_tableIn (tgt := 525) hx hb dL_law_33 (by rw [h9]; decide) (by rw [h9]; decide) (by rw [h9]; rfl) (by decide) ?_
      exact lc_start C s_start ad bd i x3 hi nx σ τ H locs ls hR hP hD hS hl
    by_cases h10 : w = (10 : Int32)
    · refine lv_tableIn (tgt := 548) hx hb dL_law_33 (by rw [h10]; decide) (by rw [h10]; decide) (by rw [h10]; rfl) (by decide) ?_
      exact lc_quickest C s_quickest ad bd i x3 hi nx σ τ H locs ls hR hP hD hS hl
    by_cases h11 : w = (11 : Int32)
    · refine lv_tableIn (tgt := 561) hx hb dL_law_33 (by rw [h11]; decide) (by rw [h11]; decide) (by rw [h11]; rfl) (by decide) ?_
      exact lc_came C s_came ad bd i x3 hi nx σ τ H locs ls hR hP hD hS hl
    by_cases h12 : w = (12 : Int32)
    · refine lv_tableIn (tgt := 574) hx hb dL_law_33 (by rw [h12]; decide) (by rw [h12]; decide) (by rw [h12]; rfl) (by decide) ?_
      exact lc_thing C s_thing ad bd i x3 hi nx σ τ H locs ls hR hP hD hS hl
    by_cases h13 : w = (13 : Int32)
    · refine lv_tableIn (tgt := 617) hx hb dL_law_33 (by rw [h13]; decide) (by rw [h13]; decide) (by rw [h13]; rfl) (by decide) ?_
      exact lc_thingOf C s_thingOf ad bd i x3 hi nx σ τ H locs ls hR hP hD hS hl
    by_cases h14 : w = (14 : Int32)
    · refine lv_tableIn (tgt := 650) hx hb dL_law_33 (by rw [h14]; decide) (by rw [h14]; decide) (by rw [h14]; rfl) (by decide) ?_
      exact lc_lift C s_lift ad bd i x3 hi nx σ τ H locs ls hR hP hD hS hl
    by_cases h15 : w = (15 : Int32)
    · refine lv_tableIn (tgt := 673) hx hb dL_law_33 (by rw [h15]; decide) (by rw [h15]; decide) (by rw [h15]; rfl) (by decide) ?_
      exact lc_down C s_down ad bd i x3 hi nx σ τ H locs ls hR hP hD hS hl
    by_cases h16 : w = (16 : Int32)
    · refine lv_tableIn (tgt := 706) hx hb dL_law_33 (by rw [h16]; decide) (by rw [h16]; decide) (by rw [h16]; rfl) (by decide) ?_
      exact lc_harm C s_harm ad bd i x3 hi nx σ τ H locs ls hR hP hD hS hl
    by_cases h17 : w = (17 : Int32)
    · refine lv_tableIn (tgt := 719) hx hb dL_law_33 (by rw [h17]; decide) (by rw [h17]; decide) (by rw [h17]; rfl) (by decide) ?_
      exact lc_feed C s_feed ad bd i x3 hi nx σ τ H locs ls hR hP hD hS hl
    by_cases h18 : w = (18 : Int32)
    · refine lv_tableIn (tgt := 752) hx hb dL_law_33 (by rw [h18]; decide) (by rw [h18]; decide) (by rw [h18]; rfl) (by decide) ?_
      exact lc_wipe C s_wipe ad bd i x3 hi nx σ τ H locs ls hR hP hD hS hl
    by_cases h19 : w = (19 : Int32)
    · refine lv_tableIn (tgt := 765) hx hb dL_law_33 (by rw [h19]; decide) (by rw [h19]; decide) (by rw [h19]; rfl) (by decide) ?_
      exact lc_sky C s_sky ad bd i x3 hi nx σ τ H locs ls hR hP hD hS hl
    by_cases h20 : w = (20 : Int32)
    · refine lv_tableIn (tgt := 778) hx hb dL_law_33 (by rw [h20]; decide) (by rw [h20]; decide) (by rw [h20]; rfl) (by decide) ?_
      exact lc_skyOf C s_skyOf ad bd i x3 hi nx σ τ H locs ls hR hP hD hS hl
    by_cases h21 : w = (21 : Int32)
    · refine lv_tableIn (tgt := 811) hx hb dL_law_33 (by rw [h21]; decide) (by rw [h21]; decide) (by rw [h21]; rfl) (by decide) ?_
      exact lc_play C s_play ad bd i x3 hi nx σ τ H locs ls hR hP hD hS hl
    by_cases h22 : w = (22 : Int32)
    · refine lv_tableIn (tgt := 834) hx hb dL_law_33 (by rw [h22]; decide) (by rw [h22]; decide) (by rw [h22]; rfl) (by decide) ?_
      exact lc_ahead C s_ahead ad bd i x3 hi nx σ τ H locs ls hR hP hD hS hl
    by_cases h23 : w = (23 : Int32)
    · refine lv_tableIn (tgt := 867) hx hb dL_law_33 (by rw [h23]; decide) (by rw [h23]; decide) (by rw [h23]; rfl) (by decide) ?_
      exact lc_under C s_under ad bd i x3 hi nx σ τ H locs ls hR hP hD hS hl
    by_cases h24 : w = (24 : Int32)
    · refine lv_tableIn (tgt := 900) hx hb dL_law_33 (by rw [h24]; decide) (by rw [h24]; decide) (by rw [h24]; rfl) (by decide) ?_
      exact lc_reaches C s_reaches ad bd i x3 hi nx σ τ H locs ls hR hP hD hS hl
    by_cases h25 : w = (25 : Int32)
    · refine lv_tableIn (tgt := 923) hx hb dL_law_33 (by rw [h25]; decide) (by rw [h25]; decide) (by rw [h25]; rfl) (by decide) ?_
      exact lc_bestOn C s_bestOn ad bd i x3 hi nx σ τ H locs ls hR hP hD hS hl
    by_cases h26 : w = (26 : Int32)
    · refine lv_tableIn (tgt := 956) hx hb dL_law_33 (by rw [h26]; decide) (by rw [h26]; decide) (by rw [h26]; rfl) (by decide) ?_
      exact lc_rateFor C s_rateFor ad bd i x3 hi nx σ τ H locs ls hR hP hD hS hl
    by_cases h27 : w = (27 : Int32)
    · refine lv_tableIn (tgt := 989) hx hb dL_law_33 (by rw [h27]; decide) (by rw [h27]; decide) (by rw [h27]; rfl) (by decide) ?_
      exact lc_batteryFor C s_batteryFor ad bd i x3 hi nx σ τ H locs ls hR hP hD hS hl
    by_cases h28 : w = (28 : Int32)
    · refine lv_tableIn (tgt := 1022) hx hb dL_law_33 (by rw [h28]; decide) (by rw [h28]; decide) (by rw [h28]; rfl) (by decide) ?_
      exact lc_cost C s_cost ad bd i x3 hi nx σ τ H locs ls hR hP hD hS hl
    by_cases h29 : w = (29 : Int32)
    · refine lv_tableIn (tgt := 1055) hx hb dL_law_33 (by rw [h29]; decide) (by rw [h29]; decide) (by rw [h29]; rfl) (by decide) ?_
      exact lc_build C s_build ad bd i x3 hi nx σ τ H locs ls hR hP hD hS hl
    by_cases h30 : w = (30 : Int32)
    · refine lv_tableIn (tgt := 1078) hx hb dL_law_33 (by rw [h30]; decide) (by rw [h30]; decide) (by rw [h30]; rfl) (by decide) ?_
      exact lc_worth C s_worth ad bd i x3 hi nx σ τ H locs ls hR hP hD hS hl
    by_cases h31 : w = (31 : Int32)
    · refine lv_tableIn (tgt := 1121) hx hb dL_law_33 (by rw [h31]; decide) (by rw [h31]; decide) (by rw [h31]; rfl) (by decide) ?_
      exact lc_rescue C s_rescue ad bd i x3 hi nx σ τ H locs ls hR hP hD hS hl
    by_cases h32 : w = (32 : Int32)
    · refine lv_tableIn (tgt := 1144) hx hb dL_law_33 (by rw [h32]; decide) (by rw [h32]; decide) (by rw [h32]; rfl) (by decide) ?_
      exact lc_shelf C s_shelf ad bd i x3 hi nx σ τ H locs ls hR hP hD hS hl
    by_cases h33 : w = (33 : Int32)
    · refine lv_tableIn (tgt := 1177) hx hb dL_law_33 (by rw [h33]; decide) (by rw [h33]; decide) (by rw [h33]; rfl) (by decide) ?_
      exact lc_odds C s_odds ad bd i x3 hi nx σ τ H locs ls hR hP hD hS hl
    by_cases h34 : w = (34 : Int32)
    · refine lv_tableIn (tgt := 1220) hx hb dL_law_33 (by rw [h34]; decide) (by rw [h34]; decide) (by rw [h34]; rfl) (by decide) ?_
      exact lc_seed C s_seed ad bd i x3 hi nx σ τ H locs ls hR hP hD hS hl
    by_cases h35 : w = (35 : Int32)
    · refine lv_tableIn (tgt := 1243) hx hb dL_law_33 (by rw [h35]; decide) (by rw [h35]; decide) (by rw [h35]; rfl) (by decide) ?_
      exact lc_hold C s_hold ad bd i x3 hi nx σ τ H locs ls hR hP hD hS hl
    by_cases h36 : w = (36 : Int32)
    · refine lv_tableIn (tgt := 1276) hx hb dL_law_33 (by rw [h36]; decide) (by rw [h36]; decide) (by rw [h36]; rfl) (by decide) ?_
      exact lc_as C s_as ad bd i x3 hi nx σ τ H locs ls hR hP hD hS hl
    by_cases h37 : w = (37 : Int32)
    · refine lv_tableIn (tgt := 1309) hx hb dL_law_33 (by rw [h37]; decide) (by rw [h37]; decide) (by rw [h37]; rfl) (by decide) ?_
      exact lc_sheet C s_sheet ad bd i x3 hi nx σ τ H locs ls hR hP hD hS hl
    by_cases h38 : w = (38 : Int32)
    · refine lv_tableIn (tgt := 1352) hx hb dL_law_33 (by rw [h38]; decide) (by rw [h38]; decide) (by rw [h38]; rfl) (by decide) ?_
      exact lc_write C s_write ad bd i x3 hi nx σ τ H locs ls hR hP hD hS hl
    by_cases h39 : w = (39 : Int32)
    · refine lv_tableIn (tgt := 1395) hx hb dL_law_33 (by rw [h39]; decide) (by rw [h39]; decide) (by rw [h39]; rfl) (by decide) ?_
      exact lc_copy C s_copy ad bd i x3 hi nx σ τ H locs ls hR hP hD hS hl
    by_cases h40 : w = (40 : Int32)
    · refine lv_tableIn (tgt := 1458) hx hb dL_law_33 (by rw [h40]; decide) (by rw [h40]; decide) (by rw [h40]; rfl) (by decide) ?_
      exact lc_load C s_load ad bd i x3 hi nx σ τ H locs ls hR hP hD hS hl
    by_cases h41 : w = (41 : Int32)
    · refine lv_tableIn (tgt := 1481) hx hb dL_law_33 (by rw [h41]; decide) (by rw [h41]; decide) (by rw [h41]; rfl) (by decide) ?_
      exact lc_judge C s_judge ad bd i x3 hi nx σ τ H locs ls hR hP hD hS hl
    by_cases h42 : w = (42 : Int32)
    · refine lv_tableIn (tgt := 1504) hx hb dL_law_33 (by rw [h42]; decide) (by rw [h42]; decide) (by rw [h42]; rfl) (by decide) ?_
      exact lc_image C s_image ad bd i x3 hi nx σ τ H locs ls hR hP hD hS hl
    by_cases h43 : w = (43 : Int32)
    · refine lv_tableIn (tgt := 1517) hx hb dL_law_33 (by rw [h43]; decide) (by rw [h43]; decide) (by rw [h43]; rfl) (by decide) ?_
      exact lc_undo C s_undo ad bd i x3 hi nx σ τ H locs ls hR hP hD hS hl
    by_cases h44 : w = (44 : Int32)
    · refine lv_tableIn (tgt := 1530) hx hb dL_law_33 (by rw [h44]; decide) (by rw [h44]; decide) (by rw [h44]; rfl) (by decide) ?_
      exact lc_tear C s_tear ad bd i x3 hi nx σ τ H locs ls hR hP hD hS hl
    by_cases h45 : w = (45 : Int32)
    · refine lv_tableIn (tgt := 1543) hx hb dL_law_33 (by rw [h45]; decide) (by rw [h45]; decide) (by rw [h45]; rfl) (by decide) ?_
      exact lc_count C s_count ad bd i x3 hi nx σ τ H locs ls hR hP hD hS hl
    by_cases h46 : w = (46 : Int32)
    · refine lv_tableIn (tgt := 1566) hx hb dL_law_33 (by rw [h46]; decide) (by rw [h46]; decide) (by rw [h46]; rfl) (by decide) ?_
      exact lc_status C s_status ad bd i x3 hi nx σ τ H locs ls hR hP hD hS hl
    refine lv_tableOut (tgt := 1589) hx hb dL_law_33 (by have := q_ne h0 (z := 0) rfl; have := q_ne h1 (z := 1) rfl; have := q_ne h2 (z := 2) rfl; have := q_ne h3 (z := 3) rfl; have := q_ne h4 (z := 4) rfl; have := q_ne h5 (z := 5) rfl; have := q_ne h6 (z := 6) rfl; have := q_ne h7 (z := 7) rfl; have := q_ne h8 (z := 8) rfl; have := q_ne h9 (z := 9) rfl; have := q_ne h10 (z := 10) rfl; have := q_ne h11 (z := 11) rfl; have := q_ne h12 (z := 12) rfl; have := q_ne h13 (z := 13) rfl; have := q_ne h14 (z := 14) rfl; have := q_ne h15 (z := 15) rfl; have := q_ne h16 (z := 16) rfl; have := q_ne h17 (z := 17) rfl; have := q_ne h18 (z := 18) rfl; have := q_ne h19 (z := 19) rfl; have := q_ne h20 (z := 20) rfl; have := q_ne h21 (z := 21) rfl; have := q_ne h22 (z := 22) rfl; have := q_ne h23 (z := 23) rfl; have := q_ne h24 (z := 24) rfl; have := q_ne h25 (z := 25) rfl; have := q_ne h26 (z := 26) rfl; have := q_ne h27 (z := 27) rfl; have := q_ne h28 (z := 28) rfl; have := q_ne h29 (z := 29) rfl; have := q_ne h30 (z := 30) rfl; have := q_ne h31 (z := 31) rfl; have := q_ne h32 (z := 32) rfl; have := q_ne h33 (z := 33) rfl; have := q_ne h34 (z := 34) rfl; have := q_ne h35 (z := 35) rfl; have := q_ne h36 (z := 36) rfl; have := q_ne h37 (z := 37) rfl; have := q_ne h38 (z := 38) rfl; have := q_ne h39 (z := 39) rfl; have := q_ne h40 (z := 40) rfl; have := q_ne h41 (z := 41) rfl; have := q_ne h42 (z := 42) rfl; have := q_ne h43 (z := 43) rfl; have := q_ne h44 (z := 44) rfl; have := q_ne h45 (z := 45) rfl; have := q_ne h46 (z := 46) rfl; omega) (by decide) ?_
    exact nx σ τ H locs ls hR hP hD hS hl
end LW
