/-! A RUN, its frame told otherwise -/
theorem ax_Wp.fr {X : Nat × (Nat → Int32)} {d mi : Nat} {f f' : ax_F} {h : ax_H} {Q : ax_O → ax_H → Prop} (e : f = f') (w : ax_Wp X d mi f' h Q) : ax_Wp X d mi f h Q := e ▸ w
