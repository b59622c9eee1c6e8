/-! what the decompiling program's rows stand on -/
def Cq (o : gO) (v : gV) : gO → gS → Prop := fun o' σ' => o' = o ∧ σ' = rS v
def gOi (r : Int32 ⊕ String) : gO := match r with
  | .inl x => .inl (some (.int x))
  | .inr e => .inr e
def gOj (r : Int64 ⊕ String) : gO := match r with
  | .inl x => .inl (some (.long x))
  | .inr e => .inr e
def gOd (r : UInt64 ⊕ String) : gO := match r with
  | .inl x => .inl (some (.double x))
  | .inr e => .inr e
def gOf (r : UInt32 ⊕ String) : gO := match r with
  | .inl x => .inl (some (.float x))
  | .inr e => .inr e
def gqI (Q : gO → gS → Prop) (v : gV) (x : Int32) : Prop := Q (.inl (some (.int x))) (rS v)
def gqJ (Q : gO → gS → Prop) (v : gV) (x : Int64) : Prop := Q (.inl (some (.long x))) (rS v)
def gqD (Q : gO → gS → Prop) (v : gV) (x : UInt64) : Prop := Q (.inl (some (.double x))) (rS v)
def gqF (Q : gO → gS → Prop) (v : gV) (x : UInt32) : Prop := Q (.inl (some (.float x))) (rS v)
def gqV (Q : gO → gS → Prop) (w : gV) : Prop := Q (.inl none) (rS w)
def gqIV (Q : gO → gS → Prop) (r : Int32 × gV) : Prop := Q (.inl (some (.int r.1))) (rS r.2)
def gqJV (Q : gO → gS → Prop) (r : Int64 × gV) : Prop := Q (.inl (some (.long r.1))) (rS r.2)
def gqTI (Q : gO → gS → Prop) (v : gV) (r : Int32 ⊕ String) : Prop := Q (gOi r) (rS v)
def gqTJ (Q : gO → gS → Prop) (v : gV) (r : Int64 ⊕ String) : Prop := Q (gOj r) (rS v)
def gqTD (Q : gO → gS → Prop) (v : gV) (r : UInt64 ⊕ String) : Prop := Q (gOd r) (rS v)
def gqTF (Q : gO → gS → Prop) (v : gV) (r : UInt32 ⊕ String) : Prop := Q (gOf r) (rS v)
def gqTIV (Q : gO → gS → Prop) (r : (Int32 ⊕ String) × gV) : Prop := Q (gOi r.1) (rS r.2)
def gqTJV (Q : gO → gS → Prop) (r : (Int64 ⊕ String) × gV) : Prop := Q (gOj r.1) (rS r.2)
theorem qp {α : Type} {c : Prop} [Decidable c] {a b : α} {P : α → Prop} (h : c) (hQ : P (if c then a else b)) : P a := by rwa [if_pos h] at hQ
theorem qn {α : Type} {c : Prop} [Decidable c] {a b : α} {P : α → Prop} (h : ¬ c) (hQ : P (if c then a else b)) : P b := by rwa [if_neg h] at hQ
theorem ql {α β γ : Type} {P : γ → Prop} {F : α → γ} {G : β → γ} {r : α ⊕ β} {x : α} (h : r = .inl x) (hQ : P (Sum.elim F G r)) : P (F x) := by
  subst h
  exact hQ
theorem qe {α β γ : Type} {P : γ → Prop} {F : α → γ} {G : β → γ} {r : α ⊕ β} {x : β} (h : r = .inr x) (hQ : P (Sum.elim F G r)) : P (G x) := by
  subst h
  exact hQ
section GDEC
variable {E : gE} {μ : gMd} {d : Nat} {Q : gO → gS → Prop} {k n : Nat} {v' : gV} {pc : Nat} {lv : List (Nat × Value)} {rest : List Value}
theorem adN (h : gG E μ d Q k n (rS v') pc lv rest) : ∀ (v : Option Value) (σ' : gS), Cq (.inl none) v' (.inl v) σ' → gG E μ d Q k n σ' pc lv (v.toList ++ rest) := by
  rintro v σ' ⟨h1, rfl⟩
  cases h1
  exact h
theorem adV {w : Value} (h : gG E μ d Q k n (rS v') pc lv (w :: rest)) : ∀ (v : Option Value) (σ' : gS), Cq (.inl (some w)) v' (.inl v) σ' → gG E μ d Q k n σ' pc lv (v.toList ++ rest) := by
  rintro v σ' ⟨h1, rfl⟩
  cases h1
  exact h
theorem axN {w : Option Value} : ∀ (En : String) (σ' : gS), Cq (.inl w) v' (.inr En) σ' → gGx E μ d Q k n σ' pc lv rest En := by
  rintro En σ' ⟨h1, -⟩
  cases h1
theorem adTI {r : Int32 ⊕ String} (h : ∀ x, r = .inl x → gG E μ d Q k n (rS v') pc lv (.int x :: rest)) : ∀ (v : Option Value) (σ' : gS), Cq (gOi r) v' (.inl v) σ' → gG E μ d Q k n σ' pc lv (v.toList ++ rest) := by
  rintro v σ' ⟨h1, rfl⟩
  cases r with
  | inl x => cases h1; exact h x rfl
  | inr e => cases h1
theorem axTI {r : Int32 ⊕ String} (h : ∀ e, r = .inr e → gGx E μ d Q k n (rS v') pc lv rest e) : ∀ (En : String) (σ' : gS), Cq (gOi r) v' (.inr En) σ' → gGx E μ d Q k n σ' pc lv rest En := by
  rintro En σ' ⟨h1, rfl⟩
  cases r with
  | inl x => cases h1
  | inr e => cases h1; exact h _ rfl
theorem adTJ {r : Int64 ⊕ String} (h : ∀ x, r = .inl x → gG E μ d Q k n (rS v') pc lv (.long x :: rest)) : ∀ (v : Option Value) (σ' : gS), Cq (gOj r) v' (.inl v) σ' → gG E μ d Q k n σ' pc lv (v.toList ++ rest) := by
  rintro v σ' ⟨h1, rfl⟩
  cases r with
  | inl x => cases h1; exact h x rfl
  | inr e => cases h1
theorem axTJ {r : Int64 ⊕ String} (h : ∀ e, r = .inr e → gGx E μ d Q k n (rS v') pc lv rest e) : ∀ (En : String) (σ' : gS), Cq (gOj r) v' (.inr En) σ' → gGx E μ d Q k n σ' pc lv rest En := by
  rintro En σ' ⟨h1, rfl⟩
  cases r with
  | inl x => cases h1
  | inr e => cases h1; exact h _ rfl
theorem adTD {r : UInt64 ⊕ String} (h : ∀ x, r = .inl x → gG E μ d Q k n (rS v') pc lv (.double x :: rest)) : ∀ (v : Option Value) (σ' : gS), Cq (gOd r) v' (.inl v) σ' → gG E μ d Q k n σ' pc lv (v.toList ++ rest) := by
  rintro v σ' ⟨h1, rfl⟩
  cases r with
  | inl x => cases h1; exact h x rfl
  | inr e => cases h1
theorem axTD {r : UInt64 ⊕ String} (h : ∀ e, r = .inr e → gGx E μ d Q k n (rS v') pc lv rest e) : ∀ (En : String) (σ' : gS), Cq (gOd r) v' (.inr En) σ' → gGx E μ d Q k n σ' pc lv rest En := by
  rintro En σ' ⟨h1, rfl⟩
  cases r with
  | inl x => cases h1
  | inr e => cases h1; exact h _ rfl
theorem adTF {r : UInt32 ⊕ String} (h : ∀ x, r = .inl x → gG E μ d Q k n (rS v') pc lv (.float x :: rest)) : ∀ (v : Option Value) (σ' : gS), Cq (gOf r) v' (.inl v) σ' → gG E μ d Q k n σ' pc lv (v.toList ++ rest) := by
  rintro v σ' ⟨h1, rfl⟩
  cases r with
  | inl x => cases h1; exact h x rfl
  | inr e => cases h1
theorem axTF {r : UInt32 ⊕ String} (h : ∀ e, r = .inr e → gGx E μ d Q k n (rS v') pc lv rest e) : ∀ (En : String) (σ' : gS), Cq (gOf r) v' (.inr En) σ' → gGx E μ d Q k n σ' pc lv rest En := by
  rintro En σ' ⟨h1, rfl⟩
  cases r with
  | inl x => cases h1
  | inr e => cases h1; exact h _ rfl
end GDEC
/-- all of these differ from x -/
def gsw (x : Int32) : List Int32 → Prop
  | [] => True
  | c :: cs => ¬ x = c ∧ gsw x cs
theorem gsw_all {x : Int32} : ∀ {cs : List Int32}, gsw x cs → ∀ c ∈ cs, x ≠ c
  | [], _, c, h => absurd h List.not_mem_nil
  | a :: cs, h, c, hc => by
    rcases List.mem_cons.mp hc with rfl | hc
    · exact h.1
    · exact gsw_all h.2 c hc
theorem gsw_out {lo hi : Int} (cs : List Int32) (x : Int32) (h1 : ∀ i : Nat, i < (hi - lo + 1).toNat → Int32.ofInt (lo + (i : Int)) ∈ cs) (h : gsw x cs) : x.toInt < lo ∨ hi < x.toInt := by
  by_cases a : x.toInt < lo
  · exact Or.inl a
  · by_cases b : hi < x.toInt
    · exact Or.inr b
    · have h2 := gsw_all h _ (h1 (x.toInt - lo).toNat (by omega))
      refine absurd ?_ h2
      rw [show lo + ((x.toInt - lo).toNat : Int) = x.toInt by omega, Int32.ofInt_toInt]
theorem nz {x : Int32} (h : x = 0 ∨ x = 1) : narrow .boolean (.int x) = .int x := by
  rcases h with rfl | rfl <;> rfl
theorem fz {x : Int32} (h : x = 0 ∨ x = 1) : fits .boolean (.int x) = true := by
  rcases h with rfl | rfl <;> rfl
theorem gsw_lk (dflt : Int) (x : Int32) : ∀ (ps : List (Int × Int)), gsw x (ps.map fun q => Int32.ofInt q.1) → Op.lookupswitch.offset ps dflt x.toInt = dflt
  | [], _ => rfl
  | (a, o) :: r, h => by
    rw [Op.lookupswitch.offset_cons, if_neg (fun e => h.1 (by show x = Int32.ofInt a; rw [e, Int32.ofInt_toInt]))]
    exact gsw_lk dflt x r h.2
