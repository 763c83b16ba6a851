theorem gm {w : Cond} (h : InT w) (g : goodWord w = true) : w ∈ lw_g := List.mem_filter.mpr ⟨List.mem_append_right _ h, g⟩
def InS (w : Cond) : Prop := w ∈ k2_sels lw_privs
theorem gs {w : Cond} (h : InS w) (g : goodWord w = true) : w ∈ lw_g := List.mem_filter.mpr ⟨List.mem_append_left _ h, g⟩
theorem S_0 : AllC InS (k2_sels lw_privs) := allC_of (fun w h => h)
def S_10 := S_0.2.2.2.2.2.2.2.2.2.2
def S_20 := S_10.2.2.2.2.2.2.2.2.2.2
def S_30 := S_20.2.2.2.2.2.2.2.2.2.2
def S_40 := S_30.2.2.2.2.2.2.2.2.2.2
def S_50 := S_40.2.2.2.2.2.2.2.2.2.2
def S_60 := S_50.2.2.2.2.2.2.2.2.2.2
