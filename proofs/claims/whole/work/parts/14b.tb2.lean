/-! the words that stay true while the tables grow warmer -/
def stayW : Cond → Bool
  | .methodLinkNest .. => true
  | .castable .. => true
  | .declares _ => true
  | .arrayOver (.object _) => true
  | .arrayClass _ => true
  | w => w.onTables && w.keeps
def lw_tb2 : List Cond := lw_tbl.filter stayW
theorem tb2 {w : Cond} (h : w ∈ lw_tbl) (hs : stayW w = true) : w ∈ lw_tb2 := List.mem_filter.mpr ⟨h, hs⟩
theorem stay_at {args a' : Array Value} {s U : State} (hW : s.WarmedH U.vm) {c : Cond} (hc : stayW c = true) (h : c.before args s = true) : c.before a' U = true := by
  have key : (c.onTables && c.keeps) = true → c.before a' U = true := fun hg => word_at hW (Or.inl hg) h
  cases c with
  | methodLinkNest a i x q => exact va_Nw.use rfl (va_Nw.warmM hW (va_Nw.of rfl h))
  | castable C T => exact va_Nw.use rfl (va_Nw.warmC hW (va_Nw.of rfl h))
  | declares x => exact va_Nw.use rfl (va_Nw.warmD hW (va_Nw.of rfl h))
  | arrayClass ty => exact word_at hW (Or.inr ⟨ty, rfl⟩) h
  | arrayOver ty =>
    cases ty with
    | object C => exact va_AO.use (va_AO.moved hW.alike (va_AO.of h))
    | _ => exact key hc
  | _ => exact key hc
theorem tb2_at {args a' : Array Value} {s U : State} (hW : s.WarmedH U.vm) (hts : ∀ w ∈ lw_tb2, w.before args s = true) : ∀ w ∈ lw_tb2, w.before a' U = true :=
  fun w hw => stay_at hW (List.mem_filter.mp hw).2 (hts w hw)
