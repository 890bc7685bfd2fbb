/-! MEMORIES, as pictures -/
abbrev rv_Mem : Type := Nat → Nat → Int32
def rv_u (M : rv_Mem) (k i : Nat) (v : Int32) : rv_Mem := fun a b => if a = k ∧ b = i then v else M a b
def rv_z (x : Int32) : Bool := decide (x ≠ 0)
theorem rv_z_i {b : Bool} : rv_z (rv_i b) = b := by cases b <;> rfl
def rR_SQ (v : Int32) : Array Value → State → Outcome → State → Prop := va_Qi (fun r (_ : Unit) => r = v) (fun _ _ => True) (fun _ => False)
theorem rv_slm : ∀ (vs : List Value), (∀ v ∈ vs, v.category = 1) → lg_sl vs = vs.map Slot.val
  | [], _ => rfl
  | v :: vs, h => by
    have h1 := h v List.mem_cons_self
    have h2 := rv_slm vs (fun w hw => h w (List.mem_cons_of_mem _ hw))
    unfold lg_sl at h2 ⊢
    rw [List.flatMap_cons, h2, if_neg (by omega)]
    rfl
def rS_qI (below : List Frame) (args : Array Value) (s : State) : Int32 → State → Prop := fun r => MQ below (rR_SQ r) args s 0 0 (fun _ => False)
def rS_qZ (below : List Frame) (args : Array Value) (s : State) : Bool → State → Prop := fun r => MQ below (rR_SQ (rv_i r)) args s 0 0 (fun _ => False)
