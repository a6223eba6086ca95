theorem tr2 {a b : List va_W} (c : List va_W) (h1 : a = c) (h2 : b = c) : a = b := h1.trans h2.symm
