/-! rewriting rules that are no definitional steps: a chain of bd, unfolded by rfl under an if, runs away in the check (F_X4_undo) -/
theorem bd_e {α β : Type} (x : α) (f : α → β) : bd x f = f x := Eq.trans (Eq.refl (f x)) (Eq.refl (f x))
theorem bo_e {α β : Type} {v : β} {f : β → Option α} : bo (some v) f = f v := Eq.trans (Eq.refl (f v)) (Eq.refl (f v))
theorem bm_e {α β : Type} {v : β} {m : Mem} {f : β → Mem → Option α} : bm (some (v, m)) f = f v m := Eq.trans (Eq.refl (f v m)) (Eq.refl (f v m))
theorem bts_l {β δ : Type} {v : β} {ex : Nat → Option δ} {f : β → Option δ} : bts (some (.inl v)) ex f = f v := Eq.trans (Eq.refl (f v)) (Eq.refl (f v))
theorem bts_r {β δ : Type} {c : Nat} {ex : Nat → Option δ} {f : β → Option δ} : bts (some (.inr c)) ex f = ex c := Eq.trans (Eq.refl (ex c)) (Eq.refl (ex c))
theorem btm_l {β δ : Type} {v : β} {m : Mem} {ex : Nat → Mem → Option δ} {f : β → Mem → Option δ} : btm (some (.inl v, m)) ex f = f v m := Eq.trans (Eq.refl (f v m)) (Eq.refl (f v m))
theorem btm_r {β δ : Type} {c : Nat} {m : Mem} {ex : Nat → Mem → Option δ} {f : β → Mem → Option δ} : btm (some (.inr c, m)) ex f = ex c m := Eq.trans (Eq.refl (ex c m)) (Eq.refl (ex c m))
theorem ck_z {α : Type} {x : Option α} : ck (isB 0) x = x := Eq.trans (Eq.refl x) (Eq.refl x)
theorem ck_o {α : Type} {x : Option α} : ck (isB 1) x = x := Eq.trans (Eq.refl x) (Eq.refl x)

