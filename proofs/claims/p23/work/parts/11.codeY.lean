section ZY
variable {Z : zZ} {R R' : Room} {k n : Nat} {Q Q' : zO → zH → Prop} {ls ls' st st' As rest : List Value} {h : zH} {a b r rv j N : Nat} {fs vs : List Value} {v : Value} {x y i : Int32}
end ZY
