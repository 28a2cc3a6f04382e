/-- the tables' words that are carried from call to call -/
def TG : List Cond := lw_tbl.filter goodWord
theorem TG_of {w : Cond} (h : w ∈ lw_tbl) (hg : goodWord w = true) : w ∈ TG := List.mem_filter.mpr ⟨h, hg⟩
theorem TG_good : GoodIn TG TG := fun w hw => ⟨hw, good_of_word (List.mem_filter.mp hw).2⟩
