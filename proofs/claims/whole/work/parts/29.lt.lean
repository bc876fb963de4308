theorem OK_lt {Φ : Ou → Hp → Prop} {α : Type} {x : α} {f : α → Rs} (q : OK (lt x f) Φ) : OK (f x) Φ := q
